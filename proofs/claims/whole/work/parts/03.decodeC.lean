theorem dX0_init_0 : decode cX0_init 0 = .ok (.aload_n 0, 1) := by decide +kernel
theorem dX0_init_1 : decode cX0_init 1 = .ok (.invokespecial 3, 3) := by decide +kernel
theorem dX0_init_4 : decode cX0_init 4 = .ok (.aload_n 0, 1) := by decide +kernel
theorem dX0_init_5 : decode cX0_init 5 = .ok (.sipush 481, 3) := by decide +kernel
theorem dX0_init_8 : decode cX0_init 8 = .ok (.newarray .int, 2) := by decide +kernel
theorem dX0_init_10 : decode cX0_init 10 = .ok (.putfield 11, 3) := by decide +kernel
theorem dX0_init_13 : decode cX0_init 13 = .ok (.aload_n 0, 1) := by decide +kernel
theorem dX0_init_14 : decode cX0_init 14 = .ok (.sipush 481, 3) := by decide +kernel
theorem dX0_init_17 : decode cX0_init 17 = .ok (.newarray .int, 2) := by decide +kernel
theorem dX0_init_19 : decode cX0_init 19 = .ok (.putfield 15, 3) := by decide +kernel
theorem dX0_init_22 : decode cX0_init 22 = .ok (.return_, 1) := by decide +kernel
theorem dX0_firstRefused_0 : decode cX0_firstRefused 0 = .ok (.aload_n 0, 1) := by decide +kernel
theorem dX0_firstRefused_1 : decode cX0_firstRefused 1 = .ok (.aload_n 1, 1) := by decide +kernel
theorem dX0_firstRefused_2 : decode cX0_firstRefused 2 = .ok (.getfield 18, 3) := by decide +kernel
theorem dX0_firstRefused_5 : decode cX0_firstRefused 5 = .ok (.invokevirtual 24, 3) := by decide +kernel
theorem dX0_firstRefused_8 : decode cX0_firstRefused 8 = .ok (.iconst 0, 1) := by decide +kernel
theorem dX0_firstRefused_9 : decode cX0_firstRefused 9 = .ok (.istore_n 2, 1) := by decide +kernel
theorem dX0_firstRefused_10 : decode cX0_firstRefused 10 = .ok (.iconst 0, 1) := by decide +kernel
theorem dX0_firstRefused_11 : decode cX0_firstRefused 11 = .ok (.istore_n 3, 1) := by decide +kernel
theorem dX0_firstRefused_12 : decode cX0_firstRefused 12 = .ok (.iload_n 3, 1) := by decide +kernel
theorem dX0_firstRefused_13 : decode cX0_firstRefused 13 = .ok (.aload_n 1, 1) := by decide +kernel
theorem dX0_firstRefused_14 : decode cX0_firstRefused 14 = .ok (.getfield 18, 3) := by decide +kernel
theorem dX0_firstRefused_17 : decode cX0_firstRefused 17 = .ok (.getfield 28, 3) := by decide +kernel
theorem dX0_firstRefused_20 : decode cX0_firstRefused 20 = .ok (.if_icmp .ge 75, 3) := by decide +kernel
theorem dX0_firstRefused_23 : decode cX0_firstRefused 23 = .ok (.aload_n 1, 1) := by decide +kernel
theorem dX0_firstRefused_24 : decode cX0_firstRefused 24 = .ok (.getfield 18, 3) := by decide +kernel
theorem dX0_firstRefused_27 : decode cX0_firstRefused 27 = .ok (.iload_n 3, 1) := by decide +kernel
theorem dX0_firstRefused_28 : decode cX0_firstRefused 28 = .ok (.invokevirtual 34, 3) := by decide +kernel
theorem dX0_firstRefused_31 : decode cX0_firstRefused 31 = .ok (.ifCond .ne 6, 3) := by decide +kernel
theorem dX0_firstRefused_34 : decode cX0_firstRefused 34 = .ok (.goto 55, 3) := by decide +kernel
theorem dX0_firstRefused_37 : decode cX0_firstRefused 37 = .ok (.aload_n 0, 1) := by decide +kernel
theorem dX0_firstRefused_38 : decode cX0_firstRefused 38 = .ok (.aload_n 1, 1) := by decide +kernel
theorem dX0_firstRefused_39 : decode cX0_firstRefused 39 = .ok (.getfield 18, 3) := by decide +kernel
theorem dX0_firstRefused_42 : decode cX0_firstRefused 42 = .ok (.getfield 38, 3) := by decide +kernel
theorem dX0_firstRefused_45 : decode cX0_firstRefused 45 = .ok (.iload_n 3, 1) := by decide +kernel
theorem dX0_firstRefused_46 : decode cX0_firstRefused 46 = .ok (.iaload, 1) := by decide +kernel
theorem dX0_firstRefused_47 : decode cX0_firstRefused 47 = .ok (.aload_n 1, 1) := by decide +kernel
theorem dX0_firstRefused_48 : decode cX0_firstRefused 48 = .ok (.getfield 18, 3) := by decide +kernel
theorem dX0_firstRefused_51 : decode cX0_firstRefused 51 = .ok (.getfield 39, 3) := by decide +kernel
theorem dX0_firstRefused_54 : decode cX0_firstRefused 54 = .ok (.iload_n 3, 1) := by decide +kernel
theorem dX0_firstRefused_55 : decode cX0_firstRefused 55 = .ok (.iaload, 1) := by decide +kernel
theorem dX0_firstRefused_56 : decode cX0_firstRefused 56 = .ok (.invokevirtual 40, 3) := by decide +kernel
theorem dX0_firstRefused_59 : decode cX0_firstRefused 59 = .ok (.ifCond .ne 5, 3) := by decide +kernel
theorem dX0_firstRefused_62 : decode cX0_firstRefused 62 = .ok (.iload_n 2, 1) := by decide +kernel
theorem dX0_firstRefused_63 : decode cX0_firstRefused 63 = .ok (.ireturn, 1) := by decide +kernel
theorem dX0_firstRefused_64 : decode cX0_firstRefused 64 = .ok (.aload_n 0, 1) := by decide +kernel
theorem dX0_firstRefused_65 : decode cX0_firstRefused 65 = .ok (.aload_n 1, 1) := by decide +kernel
theorem dX0_firstRefused_66 : decode cX0_firstRefused 66 = .ok (.getfield 18, 3) := by decide +kernel
theorem dX0_firstRefused_69 : decode cX0_firstRefused 69 = .ok (.getfield 38, 3) := by decide +kernel
theorem dX0_firstRefused_72 : decode cX0_firstRefused 72 = .ok (.iload_n 3, 1) := by decide +kernel
theorem dX0_firstRefused_73 : decode cX0_firstRefused 73 = .ok (.iaload, 1) := by decide +kernel
theorem dX0_firstRefused_74 : decode cX0_firstRefused 74 = .ok (.aload_n 1, 1) := by decide +kernel
theorem dX0_firstRefused_75 : decode cX0_firstRefused 75 = .ok (.getfield 18, 3) := by decide +kernel
theorem dX0_firstRefused_78 : decode cX0_firstRefused 78 = .ok (.getfield 39, 3) := by decide +kernel
theorem dX0_firstRefused_81 : decode cX0_firstRefused 81 = .ok (.iload_n 3, 1) := by decide +kernel
theorem dX0_firstRefused_82 : decode cX0_firstRefused 82 = .ok (.iaload, 1) := by decide +kernel
theorem dX0_firstRefused_83 : decode cX0_firstRefused 83 = .ok (.invokevirtual 44, 3) := by decide +kernel
theorem dX0_firstRefused_86 : decode cX0_firstRefused 86 = .ok (.iinc 2 1, 3) := by decide +kernel
theorem dX0_firstRefused_89 : decode cX0_firstRefused 89 = .ok (.iinc 3 1, 3) := by decide +kernel
theorem dX0_firstRefused_92 : decode cX0_firstRefused 92 = .ok (.goto (-80), 3) := by decide +kernel
theorem dX0_firstRefused_95 : decode cX0_firstRefused 95 = .ok (.aload_n 1, 1) := by decide +kernel
theorem dX0_firstRefused_96 : decode cX0_firstRefused 96 = .ok (.getfield 48, 3) := by decide +kernel
theorem dX0_firstRefused_99 : decode cX0_firstRefused 99 = .ok (.ifCond .eq 16, 3) := by decide +kernel
theorem dX0_firstRefused_102 : decode cX0_firstRefused 102 = .ok (.aload_n 0, 1) := by decide +kernel
theorem dX0_firstRefused_103 : decode cX0_firstRefused 103 = .ok (.iconst 0, 1) := by decide +kernel
theorem dX0_firstRefused_104 : decode cX0_firstRefused 104 = .ok (.iconst 0, 1) := by decide +kernel
theorem dX0_firstRefused_105 : decode cX0_firstRefused 105 = .ok (.invokevirtual 40, 3) := by decide +kernel
theorem dX0_firstRefused_108 : decode cX0_firstRefused 108 = .ok (.ifCond .ne 7, 3) := by decide +kernel
theorem dX0_firstRefused_111 : decode cX0_firstRefused 111 = .ok (.iload_n 2, 1) := by decide +kernel
theorem dX0_firstRefused_112 : decode cX0_firstRefused 112 = .ok (.goto 4, 3) := by decide +kernel
theorem dX0_firstRefused_115 : decode cX0_firstRefused 115 = .ok (.iconst (-1), 1) := by decide +kernel
theorem dX0_firstRefused_116 : decode cX0_firstRefused 116 = .ok (.ireturn, 1) := by decide +kernel
theorem dX0_readLog_0 : decode cX0_readLog 0 = .ok (.aload_n 0, 1) := by decide +kernel
theorem dX0_readLog_1 : decode cX0_readLog 1 = .ok (.aload_n 2, 1) := by decide +kernel
theorem dX0_readLog_2 : decode cX0_readLog 2 = .ok (.getfield 18, 3) := by decide +kernel
theorem dX0_readLog_5 : decode cX0_readLog 5 = .ok (.invokevirtual 24, 3) := by decide +kernel
theorem dX0_readLog_8 : decode cX0_readLog 8 = .ok (.aload_n 1, 1) := by decide +kernel
theorem dX0_readLog_9 : decode cX0_readLog 9 = .ok (.invokevirtual 52, 3) := by decide +kernel
theorem dX0_readLog_12 : decode cX0_readLog 12 = .ok (.aload_n 0, 1) := by decide +kernel
theorem dX0_readLog_13 : decode cX0_readLog 13 = .ok (.iconst 0, 1) := by decide +kernel
theorem dX0_readLog_14 : decode cX0_readLog 14 = .ok (.putfield 57, 3) := by decide +kernel
theorem dX0_readLog_17 : decode cX0_readLog 17 = .ok (.iconst 1, 1) := by decide +kernel
theorem dX0_readLog_18 : decode cX0_readLog 18 = .ok (.istore_n 3, 1) := by decide +kernel
theorem dX0_readLog_19 : decode cX0_readLog 19 = .ok (.iconst 0, 1) := by decide +kernel
theorem dX0_readLog_20 : decode cX0_readLog 20 = .ok (.istore 4, 2) := by decide +kernel
theorem dX0_readLog_22 : decode cX0_readLog 22 = .ok (.iconst 0, 1) := by decide +kernel
theorem dX0_readLog_23 : decode cX0_readLog 23 = .ok (.istore 5, 2) := by decide +kernel
theorem dX0_readLog_25 : decode cX0_readLog 25 = .ok (.iload 5, 2) := by decide +kernel
theorem dX0_readLog_27 : decode cX0_readLog 27 = .ok (.sipush 400, 3) := by decide +kernel
theorem dX0_readLog_30 : decode cX0_readLog 30 = .ok (.if_icmp .gt 108, 3) := by decide +kernel
theorem dX0_readLog_33 : decode cX0_readLog 33 = .ok (.aload_n 1, 1) := by decide +kernel
theorem dX0_readLog_34 : decode cX0_readLog 34 = .ok (.getfield 60, 3) := by decide +kernel
theorem dX0_readLog_37 : decode cX0_readLog 37 = .ok (.bipush (-7), 2) := by decide +kernel
theorem dX0_readLog_39 : decode cX0_readLog 39 = .ok (.if_icmp .eq 99, 3) := by decide +kernel
theorem dX0_readLog_42 : decode cX0_readLog 42 = .ok (.aload_n 0, 1) := by decide +kernel
theorem dX0_readLog_43 : decode cX0_readLog 43 = .ok (.aload_n 1, 1) := by decide +kernel
theorem dX0_readLog_44 : decode cX0_readLog 44 = .ok (.aload_n 2, 1) := by decide +kernel
theorem dX0_readLog_45 : decode cX0_readLog 45 = .ok (.getfield 63, 3) := by decide +kernel
theorem dX0_readLog_48 : decode cX0_readLog 48 = .ok (.invokevirtual 66, 3) := by decide +kernel
theorem dX0_readLog_51 : decode cX0_readLog 51 = .ok (.ifCond .ne 5, 3) := by decide +kernel
theorem dX0_readLog_54 : decode cX0_readLog 54 = .ok (.iconst (-1), 1) := by decide +kernel
theorem dX0_readLog_55 : decode cX0_readLog 55 = .ok (.ireturn, 1) := by decide +kernel
theorem dX0_readLog_56 : decode cX0_readLog 56 = .ok (.iload_n 3, 1) := by decide +kernel
theorem dX0_readLog_57 : decode cX0_readLog 57 = .ok (.ifCond .eq 22, 3) := by decide +kernel
theorem dX0_readLog_60 : decode cX0_readLog 60 = .ok (.aload_n 0, 1) := by decide +kernel
theorem dX0_readLog_61 : decode cX0_readLog 61 = .ok (.aload_n 0, 1) := by decide +kernel
theorem dX0_readLog_62 : decode cX0_readLog 62 = .ok (.getfield 70, 3) := by decide +kernel
theorem dX0_readLog_65 : decode cX0_readLog 65 = .ok (.aload_n 0, 1) := by decide +kernel
theorem dX0_readLog_66 : decode cX0_readLog 66 = .ok (.getfield 73, 3) := by decide +kernel
theorem dX0_readLog_69 : decode cX0_readLog 69 = .ok (.invokevirtual 40, 3) := by decide +kernel
theorem dX0_readLog_72 : decode cX0_readLog 72 = .ok (.ifCond .eq 7, 3) := by decide +kernel
theorem dX0_readLog_75 : decode cX0_readLog 75 = .ok (.iconst 1, 1) := by decide +kernel
theorem dX0_readLog_76 : decode cX0_readLog 76 = .ok (.goto 4, 3) := by decide +kernel
theorem dX0_readLog_79 : decode cX0_readLog 79 = .ok (.iconst 0, 1) := by decide +kernel
theorem dX0_readLog_80 : decode cX0_readLog 80 = .ok (.istore_n 3, 1) := by decide +kernel
theorem dX0_readLog_81 : decode cX0_readLog 81 = .ok (.iload_n 3, 1) := by decide +kernel
theorem dX0_readLog_82 : decode cX0_readLog 82 = .ok (.ifCond .eq 46, 3) := by decide +kernel
theorem dX0_readLog_85 : decode cX0_readLog 85 = .ok (.iinc 4 1, 3) := by decide +kernel
theorem dX0_readLog_88 : decode cX0_readLog 88 = .ok (.aload_n 0, 1) := by decide +kernel
theorem dX0_readLog_89 : decode cX0_readLog 89 = .ok (.aload_n 0, 1) := by decide +kernel
theorem dX0_readLog_90 : decode cX0_readLog 90 = .ok (.getfield 57, 3) := by decide +kernel
theorem dX0_readLog_93 : decode cX0_readLog 93 = .ok (.ifCond .ne 15, 3) := by decide +kernel
theorem dX0_readLog_96 : decode cX0_readLog 96 = .ok (.aload_n 0, 1) := by decide +kernel
theorem dX0_readLog_97 : decode cX0_readLog 97 = .ok (.getfield 70, 3) := by decide +kernel
theorem dX0_readLog_100 : decode cX0_readLog 100 = .ok (.aload_n 0, 1) := by decide +kernel
theorem dX0_readLog_101 : decode cX0_readLog 101 = .ok (.getfield 73, 3) := by decide +kernel
theorem dX0_readLog_104 : decode cX0_readLog 104 = .ok (.ior, 1) := by decide +kernel
theorem dX0_readLog_105 : decode cX0_readLog 105 = .ok (.ifCond .ne 7, 3) := by decide +kernel
theorem dX0_readLog_108 : decode cX0_readLog 108 = .ok (.iconst 1, 1) := by decide +kernel
theorem dX0_readLog_109 : decode cX0_readLog 109 = .ok (.goto 4, 3) := by decide +kernel
theorem dX0_readLog_112 : decode cX0_readLog 112 = .ok (.iconst 0, 1) := by decide +kernel
theorem dX0_readLog_113 : decode cX0_readLog 113 = .ok (.putfield 57, 3) := by decide +kernel
theorem dX0_readLog_116 : decode cX0_readLog 116 = .ok (.aload_n 0, 1) := by decide +kernel
theorem dX0_readLog_117 : decode cX0_readLog 117 = .ok (.aload_n 0, 1) := by decide +kernel
theorem dX0_readLog_118 : decode cX0_readLog 118 = .ok (.getfield 70, 3) := by decide +kernel
theorem dX0_readLog_121 : decode cX0_readLog 121 = .ok (.aload_n 0, 1) := by decide +kernel
theorem dX0_readLog_122 : decode cX0_readLog 122 = .ok (.getfield 73, 3) := by decide +kernel
theorem dX0_readLog_125 : decode cX0_readLog 125 = .ok (.invokevirtual 44, 3) := by decide +kernel
theorem dX0_readLog_128 : decode cX0_readLog 128 = .ok (.aload_n 1, 1) := by decide +kernel
theorem dX0_readLog_129 : decode cX0_readLog 129 = .ok (.invokevirtual 76, 3) := by decide +kernel
theorem dX0_readLog_132 : decode cX0_readLog 132 = .ok (.iinc 5 1, 3) := by decide +kernel
theorem dX0_readLog_135 : decode cX0_readLog 135 = .ok (.goto (-110), 3) := by decide +kernel
theorem dX0_readLog_138 : decode cX0_readLog 138 = .ok (.iload 4, 2) := by decide +kernel
theorem dX0_readLog_140 : decode cX0_readLog 140 = .ok (.ireturn, 1) := by decide +kernel
theorem dX0_readLine_0 : decode cX0_readLine 0 = .ok (.aload_n 0, 1) := by decide +kernel
theorem dX0_readLine_1 : decode cX0_readLine 1 = .ok (.iconst 0, 1) := by decide +kernel
theorem dX0_readLine_2 : decode cX0_readLine 2 = .ok (.putfield 70, 3) := by decide +kernel
theorem dX0_readLine_5 : decode cX0_readLine 5 = .ok (.aload_n 0, 1) := by decide +kernel
theorem dX0_readLine_6 : decode cX0_readLine 6 = .ok (.iconst 0, 1) := by decide +kernel
theorem dX0_readLine_7 : decode cX0_readLine 7 = .ok (.putfield 73, 3) := by decide +kernel
theorem dX0_readLine_10 : decode cX0_readLine 10 = .ok (.iconst 0, 1) := by decide +kernel
theorem dX0_readLine_11 : decode cX0_readLine 11 = .ok (.istore_n 3, 1) := by decide +kernel
theorem dX0_readLine_12 : decode cX0_readLine 12 = .ok (.iload_n 3, 1) := by decide +kernel
theorem dX0_readLine_13 : decode cX0_readLine 13 = .ok (.sipush 400, 3) := by decide +kernel
theorem dX0_readLine_16 : decode cX0_readLine 16 = .ok (.if_icmp .gt 78, 3) := by decide +kernel
theorem dX0_readLine_19 : decode cX0_readLine 19 = .ok (.aload_n 1, 1) := by decide +kernel
theorem dX0_readLine_20 : decode cX0_readLine 20 = .ok (.getfield 60, 3) := by decide +kernel
theorem dX0_readLine_23 : decode cX0_readLine 23 = .ok (.bipush (-2), 2) := by decide +kernel
theorem dX0_readLine_25 : decode cX0_readLine 25 = .ok (.if_icmp .eq 69, 3) := by decide +kernel
theorem dX0_readLine_28 : decode cX0_readLine 28 = .ok (.aload_n 1, 1) := by decide +kernel
theorem dX0_readLine_29 : decode cX0_readLine 29 = .ok (.iload_n 2, 1) := by decide +kernel
theorem dX0_readLine_30 : decode cX0_readLine 30 = .ok (.aload_n 0, 1) := by decide +kernel
theorem dX0_readLine_31 : decode cX0_readLine 31 = .ok (.getfield 70, 3) := by decide +kernel
theorem dX0_readLine_34 : decode cX0_readLine 34 = .ok (.aload_n 0, 1) := by decide +kernel
theorem dX0_readLine_35 : decode cX0_readLine 35 = .ok (.getfield 73, 3) := by decide +kernel
theorem dX0_readLine_38 : decode cX0_readLine 38 = .ok (.ior, 1) := by decide +kernel
theorem dX0_readLine_39 : decode cX0_readLine 39 = .ok (.iconst 0, 1) := by decide +kernel
theorem dX0_readLine_40 : decode cX0_readLine 40 = .ok (.invokevirtual 79, 3) := by decide +kernel
theorem dX0_readLine_43 : decode cX0_readLine 43 = .ok (.istore 4, 2) := by decide +kernel
theorem dX0_readLine_45 : decode cX0_readLine 45 = .ok (.iload 4, 2) := by decide +kernel
theorem dX0_readLine_47 : decode cX0_readLine 47 = .ok (.ifCond .ne 5, 3) := by decide +kernel
theorem dX0_readLine_50 : decode cX0_readLine 50 = .ok (.iconst 0, 1) := by decide +kernel
theorem dX0_readLine_51 : decode cX0_readLine 51 = .ok (.ireturn, 1) := by decide +kernel
theorem dX0_readLine_52 : decode cX0_readLine 52 = .ok (.iload 4, 2) := by decide +kernel
theorem dX0_readLine_54 : decode cX0_readLine 54 = .ok (.ifCond .le 20, 3) := by decide +kernel
theorem dX0_readLine_57 : decode cX0_readLine 57 = .ok (.aload_n 0, 1) := by decide +kernel
theorem dX0_readLine_58 : decode cX0_readLine 58 = .ok (.dup, 1) := by decide +kernel
theorem dX0_readLine_59 : decode cX0_readLine 59 = .ok (.getfield 70, 3) := by decide +kernel
theorem dX0_readLine_62 : decode cX0_readLine 62 = .ok (.iload 4, 2) := by decide +kernel
theorem dX0_readLine_64 : decode cX0_readLine 64 = .ok (.invokestatic 83, 3) := by decide +kernel
theorem dX0_readLine_67 : decode cX0_readLine 67 = .ok (.ior, 1) := by decide +kernel
theorem dX0_readLine_68 : decode cX0_readLine 68 = .ok (.putfield 70, 3) := by decide +kernel
theorem dX0_readLine_71 : decode cX0_readLine 71 = .ok (.goto 17, 3) := by decide +kernel
theorem dX0_readLine_74 : decode cX0_readLine 74 = .ok (.aload_n 0, 1) := by decide +kernel
theorem dX0_readLine_75 : decode cX0_readLine 75 = .ok (.dup, 1) := by decide +kernel
theorem dX0_readLine_76 : decode cX0_readLine 76 = .ok (.getfield 73, 3) := by decide +kernel
theorem dX0_readLine_79 : decode cX0_readLine 79 = .ok (.iload 4, 2) := by decide +kernel
theorem dX0_readLine_81 : decode cX0_readLine 81 = .ok (.invokestatic 83, 3) := by decide +kernel
theorem dX0_readLine_84 : decode cX0_readLine 84 = .ok (.ior, 1) := by decide +kernel
theorem dX0_readLine_85 : decode cX0_readLine 85 = .ok (.putfield 73, 3) := by decide +kernel
theorem dX0_readLine_88 : decode cX0_readLine 88 = .ok (.iinc 3 1, 3) := by decide +kernel
theorem dX0_readLine_91 : decode cX0_readLine 91 = .ok (.goto (-79), 3) := by decide +kernel
theorem dX0_readLine_94 : decode cX0_readLine 94 = .ok (.iconst 1, 1) := by decide +kernel
theorem dX0_readLine_95 : decode cX0_readLine 95 = .ok (.ireturn, 1) := by decide +kernel
theorem dX0_startWithTold_0 : decode cX0_startWithTold 0 = .ok (.aload_n 0, 1) := by decide +kernel
theorem dX0_startWithTold_1 : decode cX0_startWithTold 1 = .ok (.iconst 0, 1) := by decide +kernel
theorem dX0_startWithTold_2 : decode cX0_startWithTold 2 = .ok (.putfield 87, 3) := by decide +kernel
theorem dX0_startWithTold_5 : decode cX0_startWithTold 5 = .ok (.iconst 0, 1) := by decide +kernel
theorem dX0_startWithTold_6 : decode cX0_startWithTold 6 = .ok (.istore_n 2, 1) := by decide +kernel
theorem dX0_startWithTold_7 : decode cX0_startWithTold 7 = .ok (.iload_n 2, 1) := by decide +kernel
theorem dX0_startWithTold_8 : decode cX0_startWithTold 8 = .ok (.aload_n 1, 1) := by decide +kernel
theorem dX0_startWithTold_9 : decode cX0_startWithTold 9 = .ok (.getfield 28, 3) := by decide +kernel
theorem dX0_startWithTold_12 : decode cX0_startWithTold 12 = .ok (.if_icmp .ge 33, 3) := by decide +kernel
theorem dX0_startWithTold_15 : decode cX0_startWithTold 15 = .ok (.aload_n 1, 1) := by decide +kernel
theorem dX0_startWithTold_16 : decode cX0_startWithTold 16 = .ok (.iload_n 2, 1) := by decide +kernel
theorem dX0_startWithTold_17 : decode cX0_startWithTold 17 = .ok (.invokevirtual 34, 3) := by decide +kernel
theorem dX0_startWithTold_20 : decode cX0_startWithTold 20 = .ok (.ifCond .ne 19, 3) := by decide +kernel
theorem dX0_startWithTold_23 : decode cX0_startWithTold 23 = .ok (.aload_n 0, 1) := by decide +kernel
theorem dX0_startWithTold_24 : decode cX0_startWithTold 24 = .ok (.aload_n 1, 1) := by decide +kernel
theorem dX0_startWithTold_25 : decode cX0_startWithTold 25 = .ok (.getfield 38, 3) := by decide +kernel
theorem dX0_startWithTold_28 : decode cX0_startWithTold 28 = .ok (.iload_n 2, 1) := by decide +kernel
theorem dX0_startWithTold_29 : decode cX0_startWithTold 29 = .ok (.iaload, 1) := by decide +kernel
theorem dX0_startWithTold_30 : decode cX0_startWithTold 30 = .ok (.aload_n 1, 1) := by decide +kernel
theorem dX0_startWithTold_31 : decode cX0_startWithTold 31 = .ok (.getfield 39, 3) := by decide +kernel
theorem dX0_startWithTold_34 : decode cX0_startWithTold 34 = .ok (.iload_n 2, 1) := by decide +kernel
theorem dX0_startWithTold_35 : decode cX0_startWithTold 35 = .ok (.iaload, 1) := by decide +kernel
theorem dX0_startWithTold_36 : decode cX0_startWithTold 36 = .ok (.invokevirtual 44, 3) := by decide +kernel
theorem dX0_startWithTold_39 : decode cX0_startWithTold 39 = .ok (.iinc 2 1, 3) := by decide +kernel
theorem dX0_startWithTold_42 : decode cX0_startWithTold 42 = .ok (.goto (-35), 3) := by decide +kernel
theorem dX0_startWithTold_45 : decode cX0_startWithTold 45 = .ok (.return_, 1) := by decide +kernel
theorem dX0_take_0 : decode cX0_take 0 = .ok (.aload_n 0, 1) := by decide +kernel
theorem dX0_take_1 : decode cX0_take 1 = .ok (.getfield 87, 3) := by decide +kernel
theorem dX0_take_4 : decode cX0_take 4 = .ok (.sipush 481, 3) := by decide +kernel
theorem dX0_take_7 : decode cX0_take 7 = .ok (.if_icmp .lt 4, 3) := by decide +kernel
theorem dX0_take_10 : decode cX0_take 10 = .ok (.return_, 1) := by decide +kernel
theorem dX0_take_11 : decode cX0_take 11 = .ok (.aload_n 0, 1) := by decide +kernel
theorem dX0_take_12 : decode cX0_take 12 = .ok (.getfield 11, 3) := by decide +kernel
theorem dX0_take_15 : decode cX0_take 15 = .ok (.aload_n 0, 1) := by decide +kernel
theorem dX0_take_16 : decode cX0_take 16 = .ok (.getfield 87, 3) := by decide +kernel
theorem dX0_take_19 : decode cX0_take 19 = .ok (.iload_n 1, 1) := by decide +kernel
theorem dX0_take_20 : decode cX0_take 20 = .ok (.iastore, 1) := by decide +kernel
theorem dX0_take_21 : decode cX0_take 21 = .ok (.aload_n 0, 1) := by decide +kernel
theorem dX0_take_22 : decode cX0_take 22 = .ok (.getfield 15, 3) := by decide +kernel
theorem dX0_take_25 : decode cX0_take 25 = .ok (.aload_n 0, 1) := by decide +kernel
theorem dX0_take_26 : decode cX0_take 26 = .ok (.getfield 87, 3) := by decide +kernel
theorem dX0_take_29 : decode cX0_take 29 = .ok (.iload_n 2, 1) := by decide +kernel
theorem dX0_take_30 : decode cX0_take 30 = .ok (.iastore, 1) := by decide +kernel
theorem dX0_take_31 : decode cX0_take 31 = .ok (.aload_n 0, 1) := by decide +kernel
theorem dX0_take_32 : decode cX0_take 32 = .ok (.dup, 1) := by decide +kernel
theorem dX0_take_33 : decode cX0_take 33 = .ok (.getfield 87, 3) := by decide +kernel
theorem dX0_take_36 : decode cX0_take 36 = .ok (.iconst 1, 1) := by decide +kernel
theorem dX0_take_37 : decode cX0_take 37 = .ok (.iadd, 1) := by decide +kernel
theorem dX0_take_38 : decode cX0_take 38 = .ok (.putfield 87, 3) := by decide +kernel
theorem dX0_take_41 : decode cX0_take 41 = .ok (.return_, 1) := by decide +kernel
theorem dX0_accepts_0 : decode cX0_accepts 0 = .ok (.iload_n 2, 1) := by decide +kernel
theorem dX0_accepts_1 : decode cX0_accepts 1 = .ok (.istore_n 3, 1) := by decide +kernel
theorem dX0_accepts_2 : decode cX0_accepts 2 = .ok (.iload_n 1, 1) := by decide +kernel
theorem dX0_accepts_3 : decode cX0_accepts 3 = .ok (.istore 4, 2) := by decide +kernel
theorem dX0_accepts_5 : decode cX0_accepts 5 = .ok (.iconst 1, 1) := by decide +kernel
theorem dX0_accepts_6 : decode cX0_accepts 6 = .ok (.istore 5, 2) := by decide +kernel
theorem dX0_accepts_8 : decode cX0_accepts 8 = .ok (.iconst 0, 1) := by decide +kernel
theorem dX0_accepts_9 : decode cX0_accepts 9 = .ok (.istore 6, 2) := by decide +kernel
theorem dX0_accepts_11 : decode cX0_accepts 11 = .ok (.iload 6, 2) := by decide +kernel
theorem dX0_accepts_13 : decode cX0_accepts 13 = .ok (.bipush 30, 2) := by decide +kernel
theorem dX0_accepts_15 : decode cX0_accepts 15 = .ok (.if_icmp .gt 133, 3) := by decide +kernel
theorem dX0_accepts_18 : decode cX0_accepts 18 = .ok (.iload 5, 2) := by decide +kernel
theorem dX0_accepts_20 : decode cX0_accepts 20 = .ok (.ifCond .eq 128, 3) := by decide +kernel
theorem dX0_accepts_23 : decode cX0_accepts 23 = .ok (.iconst 0, 1) := by decide +kernel
theorem dX0_accepts_24 : decode cX0_accepts 24 = .ok (.istore 5, 2) := by decide +kernel
theorem dX0_accepts_26 : decode cX0_accepts 26 = .ok (.iconst 0, 1) := by decide +kernel
theorem dX0_accepts_27 : decode cX0_accepts 27 = .ok (.istore 7, 2) := by decide +kernel
theorem dX0_accepts_29 : decode cX0_accepts 29 = .ok (.iload 7, 2) := by decide +kernel
theorem dX0_accepts_31 : decode cX0_accepts 31 = .ok (.aload_n 0, 1) := by decide +kernel
theorem dX0_accepts_32 : decode cX0_accepts 32 = .ok (.getfield 87, 3) := by decide +kernel
theorem dX0_accepts_35 : decode cX0_accepts 35 = .ok (.if_icmp .ge 107, 3) := by decide +kernel
theorem dX0_accepts_38 : decode cX0_accepts 38 = .ok (.aload_n 0, 1) := by decide +kernel
theorem dX0_accepts_39 : decode cX0_accepts 39 = .ok (.getfield 11, 3) := by decide +kernel
theorem dX0_accepts_42 : decode cX0_accepts 42 = .ok (.iload 7, 2) := by decide +kernel
theorem dX0_accepts_44 : decode cX0_accepts 44 = .ok (.iaload, 1) := by decide +kernel
theorem dX0_accepts_45 : decode cX0_accepts 45 = .ok (.iload_n 3, 1) := by decide +kernel
theorem dX0_accepts_46 : decode cX0_accepts 46 = .ok (.iand, 1) := by decide +kernel
theorem dX0_accepts_47 : decode cX0_accepts 47 = .ok (.aload_n 0, 1) := by decide +kernel
theorem dX0_accepts_48 : decode cX0_accepts 48 = .ok (.getfield 15, 3) := by decide +kernel
theorem dX0_accepts_51 : decode cX0_accepts 51 = .ok (.iload 7, 2) := by decide +kernel
theorem dX0_accepts_53 : decode cX0_accepts 53 = .ok (.iaload, 1) := by decide +kernel
theorem dX0_accepts_54 : decode cX0_accepts 54 = .ok (.iload 4, 2) := by decide +kernel
theorem dX0_accepts_56 : decode cX0_accepts 56 = .ok (.iand, 1) := by decide +kernel
theorem dX0_accepts_57 : decode cX0_accepts 57 = .ok (.ior, 1) := by decide +kernel
theorem dX0_accepts_58 : decode cX0_accepts 58 = .ok (.ifCond .eq 6, 3) := by decide +kernel
theorem dX0_accepts_61 : decode cX0_accepts 61 = .ok (.goto 75, 3) := by decide +kernel
theorem dX0_accepts_64 : decode cX0_accepts 64 = .ok (.aload_n 0, 1) := by decide +kernel
theorem dX0_accepts_65 : decode cX0_accepts 65 = .ok (.getfield 11, 3) := by decide +kernel
theorem dX0_accepts_68 : decode cX0_accepts 68 = .ok (.iload 7, 2) := by decide +kernel
theorem dX0_accepts_70 : decode cX0_accepts 70 = .ok (.iaload, 1) := by decide +kernel
theorem dX0_accepts_71 : decode cX0_accepts 71 = .ok (.aload_n 0, 1) := by decide +kernel
theorem dX0_accepts_72 : decode cX0_accepts 72 = .ok (.getfield 15, 3) := by decide +kernel
theorem dX0_accepts_75 : decode cX0_accepts 75 = .ok (.iload 7, 2) := by decide +kernel
theorem dX0_accepts_77 : decode cX0_accepts 77 = .ok (.iaload, 1) := by decide +kernel
theorem dX0_accepts_78 : decode cX0_accepts 78 = .ok (.ior, 1) := by decide +kernel
theorem dX0_accepts_79 : decode cX0_accepts 79 = .ok (.iload_n 3, 1) := by decide +kernel
theorem dX0_accepts_80 : decode cX0_accepts 80 = .ok (.iload 4, 2) := by decide +kernel
theorem dX0_accepts_82 : decode cX0_accepts 82 = .ok (.ior, 1) := by decide +kernel
theorem dX0_accepts_83 : decode cX0_accepts 83 = .ok (.iconst (-1), 1) := by decide +kernel
theorem dX0_accepts_84 : decode cX0_accepts 84 = .ok (.ixor, 1) := by decide +kernel
theorem dX0_accepts_85 : decode cX0_accepts 85 = .ok (.iand, 1) := by decide +kernel
theorem dX0_accepts_86 : decode cX0_accepts 86 = .ok (.istore 8, 2) := by decide +kernel
theorem dX0_accepts_88 : decode cX0_accepts 88 = .ok (.iload 8, 2) := by decide +kernel
theorem dX0_accepts_90 : decode cX0_accepts 90 = .ok (.ifCond .ne 5, 3) := by decide +kernel
theorem dX0_accepts_93 : decode cX0_accepts 93 = .ok (.iconst 1, 1) := by decide +kernel
theorem dX0_accepts_94 : decode cX0_accepts 94 = .ok (.ireturn, 1) := by decide +kernel
theorem dX0_accepts_95 : decode cX0_accepts 95 = .ok (.iload 8, 2) := by decide +kernel
theorem dX0_accepts_97 : decode cX0_accepts 97 = .ok (.iload 8, 2) := by decide +kernel
theorem dX0_accepts_99 : decode cX0_accepts 99 = .ok (.iconst 1, 1) := by decide +kernel
theorem dX0_accepts_100 : decode cX0_accepts 100 = .ok (.isub, 1) := by decide +kernel
theorem dX0_accepts_101 : decode cX0_accepts 101 = .ok (.iand, 1) := by decide +kernel
theorem dX0_accepts_102 : decode cX0_accepts 102 = .ok (.ifCond .ne 34, 3) := by decide +kernel
theorem dX0_accepts_105 : decode cX0_accepts 105 = .ok (.iload_n 3, 1) := by decide +kernel
theorem dX0_accepts_106 : decode cX0_accepts 106 = .ok (.aload_n 0, 1) := by decide +kernel
theorem dX0_accepts_107 : decode cX0_accepts 107 = .ok (.getfield 11, 3) := by decide +kernel
theorem dX0_accepts_110 : decode cX0_accepts 110 = .ok (.iload 7, 2) := by decide +kernel
theorem dX0_accepts_112 : decode cX0_accepts 112 = .ok (.iaload, 1) := by decide +kernel
theorem dX0_accepts_113 : decode cX0_accepts 113 = .ok (.iload 8, 2) := by decide +kernel
theorem dX0_accepts_115 : decode cX0_accepts 115 = .ok (.iand, 1) := by decide +kernel
theorem dX0_accepts_116 : decode cX0_accepts 116 = .ok (.ior, 1) := by decide +kernel
theorem dX0_accepts_117 : decode cX0_accepts 117 = .ok (.istore_n 3, 1) := by decide +kernel
theorem dX0_accepts_118 : decode cX0_accepts 118 = .ok (.iload 4, 2) := by decide +kernel
theorem dX0_accepts_120 : decode cX0_accepts 120 = .ok (.aload_n 0, 1) := by decide +kernel
theorem dX0_accepts_121 : decode cX0_accepts 121 = .ok (.getfield 15, 3) := by decide +kernel
theorem dX0_accepts_124 : decode cX0_accepts 124 = .ok (.iload 7, 2) := by decide +kernel
theorem dX0_accepts_126 : decode cX0_accepts 126 = .ok (.iaload, 1) := by decide +kernel
theorem dX0_accepts_127 : decode cX0_accepts 127 = .ok (.iload 8, 2) := by decide +kernel
theorem dX0_accepts_129 : decode cX0_accepts 129 = .ok (.iand, 1) := by decide +kernel
theorem dX0_accepts_130 : decode cX0_accepts 130 = .ok (.ior, 1) := by decide +kernel
theorem dX0_accepts_131 : decode cX0_accepts 131 = .ok (.istore 4, 2) := by decide +kernel
theorem dX0_accepts_133 : decode cX0_accepts 133 = .ok (.iconst 1, 1) := by decide +kernel
theorem dX0_accepts_134 : decode cX0_accepts 134 = .ok (.istore 5, 2) := by decide +kernel
theorem dX0_accepts_136 : decode cX0_accepts 136 = .ok (.iinc 7 1, 3) := by decide +kernel
theorem dX0_accepts_139 : decode cX0_accepts 139 = .ok (.goto (-110), 3) := by decide +kernel
theorem dX0_accepts_142 : decode cX0_accepts 142 = .ok (.iinc 6 1, 3) := by decide +kernel
theorem dX0_accepts_145 : decode cX0_accepts 145 = .ok (.goto (-134), 3) := by decide +kernel
theorem dX0_accepts_148 : decode cX0_accepts 148 = .ok (.iconst 0, 1) := by decide +kernel
theorem dX0_accepts_149 : decode cX0_accepts 149 = .ok (.ireturn, 1) := by decide +kernel
theorem dX1_init_0 : decode cX1_init 0 = .ok (.aload_n 0, 1) := by decide +kernel
theorem dX1_init_1 : decode cX1_init 1 = .ok (.invokespecial 1, 3) := by decide +kernel
theorem dX1_init_4 : decode cX1_init 4 = .ok (.aload_n 0, 1) := by decide +kernel
theorem dX1_init_5 : decode cX1_init 5 = .ok (.iload_n 1, 1) := by decide +kernel
theorem dX1_init_6 : decode cX1_init 6 = .ok (.ifCond .ge 7, 3) := by decide +kernel
theorem dX1_init_9 : decode cX1_init 9 = .ok (.iconst 0, 1) := by decide +kernel
theorem dX1_init_10 : decode cX1_init 10 = .ok (.goto 4, 3) := by decide +kernel
theorem dX1_init_13 : decode cX1_init 13 = .ok (.iload_n 1, 1) := by decide +kernel
theorem dX1_init_14 : decode cX1_init 14 = .ok (.newarray .int, 2) := by decide +kernel
theorem dX1_init_16 : decode cX1_init 16 = .ok (.putfield 7, 3) := by decide +kernel
theorem dX1_init_19 : decode cX1_init 19 = .ok (.return_, 1) := by decide +kernel
theorem dX1_isFull_0 : decode cX1_isFull 0 = .ok (.aload_n 0, 1) := by decide +kernel
theorem dX1_isFull_1 : decode cX1_isFull 1 = .ok (.getfield 13, 3) := by decide +kernel
theorem dX1_isFull_4 : decode cX1_isFull 4 = .ok (.aload_n 0, 1) := by decide +kernel
theorem dX1_isFull_5 : decode cX1_isFull 5 = .ok (.getfield 7, 3) := by decide +kernel
theorem dX1_isFull_8 : decode cX1_isFull 8 = .ok (.arraylength, 1) := by decide +kernel
theorem dX1_isFull_9 : decode cX1_isFull 9 = .ok (.if_icmp .lt 7, 3) := by decide +kernel
theorem dX1_isFull_12 : decode cX1_isFull 12 = .ok (.iconst 1, 1) := by decide +kernel
theorem dX1_isFull_13 : decode cX1_isFull 13 = .ok (.goto 4, 3) := by decide +kernel
theorem dX1_isFull_16 : decode cX1_isFull 16 = .ok (.iconst 0, 1) := by decide +kernel
theorem dX1_isFull_17 : decode cX1_isFull 17 = .ok (.ireturn, 1) := by decide +kernel
theorem dX1_canTake_0 : decode cX1_canTake 0 = .ok (.aload_n 0, 1) := by decide +kernel
theorem dX1_canTake_1 : decode cX1_canTake 1 = .ok (.invokevirtual 17, 3) := by decide +kernel
theorem dX1_canTake_4 : decode cX1_canTake 4 = .ok (.ifCond .ne 19, 3) := by decide +kernel
theorem dX1_canTake_7 : decode cX1_canTake 7 = .ok (.aload_n 0, 1) := by decide +kernel
theorem dX1_canTake_8 : decode cX1_canTake 8 = .ok (.getfield 21, 3) := by decide +kernel
theorem dX1_canTake_11 : decode cX1_canTake 11 = .ok (.iload_n 1, 1) := by decide +kernel
theorem dX1_canTake_12 : decode cX1_canTake 12 = .ok (.invokestatic 24, 3) := by decide +kernel
theorem dX1_canTake_15 : decode cX1_canTake 15 = .ok (.iand, 1) := by decide +kernel
theorem dX1_canTake_16 : decode cX1_canTake 16 = .ok (.ifCond .ne 7, 3) := by decide +kernel
theorem dX1_canTake_19 : decode cX1_canTake 19 = .ok (.iconst 1, 1) := by decide +kernel
theorem dX1_canTake_20 : decode cX1_canTake 20 = .ok (.goto 4, 3) := by decide +kernel
theorem dX1_canTake_23 : decode cX1_canTake 23 = .ok (.iconst 0, 1) := by decide +kernel
theorem dX1_canTake_24 : decode cX1_canTake 24 = .ok (.ireturn, 1) := by decide +kernel
theorem dX1_put_0 : decode cX1_put 0 = .ok (.aload_n 0, 1) := by decide +kernel
theorem dX1_put_1 : decode cX1_put 1 = .ok (.invokevirtual 17, 3) := by decide +kernel
theorem dX1_put_4 : decode cX1_put 4 = .ok (.ifCond .eq 4, 3) := by decide +kernel
theorem dX1_put_7 : decode cX1_put 7 = .ok (.return_, 1) := by decide +kernel
theorem dX1_put_8 : decode cX1_put 8 = .ok (.aload_n 0, 1) := by decide +kernel
theorem dX1_put_9 : decode cX1_put 9 = .ok (.getfield 7, 3) := by decide +kernel
theorem dX1_put_12 : decode cX1_put 12 = .ok (.aload_n 0, 1) := by decide +kernel
theorem dX1_put_13 : decode cX1_put 13 = .ok (.getfield 13, 3) := by decide +kernel
theorem dX1_put_16 : decode cX1_put 16 = .ok (.iload_n 1, 1) := by decide +kernel
theorem dX1_put_17 : decode cX1_put 17 = .ok (.iastore, 1) := by decide +kernel
theorem dX1_put_18 : decode cX1_put 18 = .ok (.aload_n 0, 1) := by decide +kernel
theorem dX1_put_19 : decode cX1_put 19 = .ok (.dup, 1) := by decide +kernel
theorem dX1_put_20 : decode cX1_put 20 = .ok (.getfield 13, 3) := by decide +kernel
theorem dX1_put_23 : decode cX1_put 23 = .ok (.iconst 1, 1) := by decide +kernel
theorem dX1_put_24 : decode cX1_put 24 = .ok (.iadd, 1) := by decide +kernel
theorem dX1_put_25 : decode cX1_put 25 = .ok (.putfield 13, 3) := by decide +kernel
theorem dX1_put_28 : decode cX1_put 28 = .ok (.aload_n 0, 1) := by decide +kernel
theorem dX1_put_29 : decode cX1_put 29 = .ok (.dup, 1) := by decide +kernel
theorem dX1_put_30 : decode cX1_put 30 = .ok (.getfield 21, 3) := by decide +kernel
theorem dX1_put_33 : decode cX1_put 33 = .ok (.iload_n 1, 1) := by decide +kernel
theorem dX1_put_34 : decode cX1_put 34 = .ok (.invokestatic 24, 3) := by decide +kernel
theorem dX1_put_37 : decode cX1_put 37 = .ok (.ior, 1) := by decide +kernel
theorem dX1_put_38 : decode cX1_put 38 = .ok (.putfield 21, 3) := by decide +kernel
theorem dX1_put_41 : decode cX1_put 41 = .ok (.return_, 1) := by decide +kernel
theorem dX1_makeEmpty_0 : decode cX1_makeEmpty 0 = .ok (.aload_n 0, 1) := by decide +kernel
theorem dX1_makeEmpty_1 : decode cX1_makeEmpty 1 = .ok (.iconst 0, 1) := by decide +kernel
theorem dX1_makeEmpty_2 : decode cX1_makeEmpty 2 = .ok (.putfield 13, 3) := by decide +kernel
theorem dX1_makeEmpty_5 : decode cX1_makeEmpty 5 = .ok (.aload_n 0, 1) := by decide +kernel
theorem dX1_makeEmpty_6 : decode cX1_makeEmpty 6 = .ok (.iconst 0, 1) := by decide +kernel
theorem dX1_makeEmpty_7 : decode cX1_makeEmpty 7 = .ok (.putfield 21, 3) := by decide +kernel
theorem dX1_makeEmpty_10 : decode cX1_makeEmpty 10 = .ok (.return_, 1) := by decide +kernel
theorem dX1_copyFrom_0 : decode cX1_copyFrom 0 = .ok (.aload_n 0, 1) := by decide +kernel
theorem dX1_copyFrom_1 : decode cX1_copyFrom 1 = .ok (.invokevirtual 30, 3) := by decide +kernel
theorem dX1_copyFrom_4 : decode cX1_copyFrom 4 = .ok (.iconst 0, 1) := by decide +kernel
theorem dX1_copyFrom_5 : decode cX1_copyFrom 5 = .ok (.istore_n 2, 1) := by decide +kernel
theorem dX1_copyFrom_6 : decode cX1_copyFrom 6 = .ok (.iload_n 2, 1) := by decide +kernel
theorem dX1_copyFrom_7 : decode cX1_copyFrom 7 = .ok (.aload_n 1, 1) := by decide +kernel
theorem dX1_copyFrom_8 : decode cX1_copyFrom 8 = .ok (.getfield 13, 3) := by decide +kernel
theorem dX1_copyFrom_11 : decode cX1_copyFrom 11 = .ok (.if_icmp .ge 19, 3) := by decide +kernel
theorem dX1_copyFrom_14 : decode cX1_copyFrom 14 = .ok (.aload_n 0, 1) := by decide +kernel
theorem dX1_copyFrom_15 : decode cX1_copyFrom 15 = .ok (.aload_n 1, 1) := by decide +kernel
theorem dX1_copyFrom_16 : decode cX1_copyFrom 16 = .ok (.getfield 7, 3) := by decide +kernel
theorem dX1_copyFrom_19 : decode cX1_copyFrom 19 = .ok (.iload_n 2, 1) := by decide +kernel
theorem dX1_copyFrom_20 : decode cX1_copyFrom 20 = .ok (.iaload, 1) := by decide +kernel
theorem dX1_copyFrom_21 : decode cX1_copyFrom 21 = .ok (.invokevirtual 33, 3) := by decide +kernel
theorem dX1_copyFrom_24 : decode cX1_copyFrom 24 = .ok (.iinc 2 1, 3) := by decide +kernel
theorem dX1_copyFrom_27 : decode cX1_copyFrom 27 = .ok (.goto (-21), 3) := by decide +kernel
theorem dX1_copyFrom_30 : decode cX1_copyFrom 30 = .ok (.return_, 1) := by decide +kernel
theorem dX2_init_0 : decode cX2_init 0 = .ok (.aload_n 0, 1) := by decide +kernel
theorem dX2_init_1 : decode cX2_init 1 = .ok (.invokespecial 3, 3) := by decide +kernel
theorem dX2_init_4 : decode cX2_init 4 = .ok (.aload_n 0, 1) := by decide +kernel
theorem dX2_init_5 : decode cX2_init 5 = .ok (.bipush 30, 2) := by decide +kernel
theorem dX2_init_7 : decode cX2_init 7 = .ok (.newarray .int, 2) := by decide +kernel
theorem dX2_init_9 : decode cX2_init 9 = .ok (.putfield 9, 3) := by decide +kernel
theorem dX2_init_12 : decode cX2_init 12 = .ok (.aload_n 0, 1) := by decide +kernel
theorem dX2_init_13 : decode cX2_init 13 = .ok (.bipush 31, 2) := by decide +kernel
theorem dX2_init_15 : decode cX2_init 15 = .ok (.newarray .int, 2) := by decide +kernel
theorem dX2_init_17 : decode cX2_init 17 = .ok (.putfield 15, 3) := by decide +kernel
theorem dX2_init_20 : decode cX2_init 20 = .ok (.aload_n 0, 1) := by decide +kernel
theorem dX2_init_21 : decode cX2_init 21 = .ok (.bipush 31, 2) := by decide +kernel
theorem dX2_init_23 : decode cX2_init 23 = .ok (.newarray .int, 2) := by decide +kernel
theorem dX2_init_25 : decode cX2_init 25 = .ok (.putfield 18, 3) := by decide +kernel
theorem dX2_init_28 : decode cX2_init 28 = .ok (.aload_n 0, 1) := by decide +kernel
theorem dX2_init_29 : decode cX2_init 29 = .ok (.new 21, 3) := by decide +kernel
theorem dX2_init_32 : decode cX2_init 32 = .ok (.dup, 1) := by decide +kernel
theorem dX2_init_33 : decode cX2_init 33 = .ok (.bipush 30, 2) := by decide +kernel
theorem dX2_init_35 : decode cX2_init 35 = .ok (.invokespecial 23, 3) := by decide +kernel
theorem dX2_init_38 : decode cX2_init 38 = .ok (.putfield 26, 3) := by decide +kernel
theorem dX2_init_41 : decode cX2_init 41 = .ok (.aload_n 0, 1) := by decide +kernel
theorem dX2_init_42 : decode cX2_init 42 = .ok (.aload_n 1, 1) := by decide +kernel
theorem dX2_init_43 : decode cX2_init 43 = .ok (.putfield 30, 3) := by decide +kernel
theorem dX2_init_46 : decode cX2_init 46 = .ok (.return_, 1) := by decide +kernel
theorem dX2_run_0 : decode cX2_run 0 = .ok (.aload_n 0, 1) := by decide +kernel
theorem dX2_run_1 : decode cX2_run 1 = .ok (.invokevirtual 34, 3) := by decide +kernel
theorem dX2_run_4 : decode cX2_run 4 = .ok (.aload_n 0, 1) := by decide +kernel
theorem dX2_run_5 : decode cX2_run 5 = .ok (.getfield 30, 3) := by decide +kernel
theorem dX2_run_8 : decode cX2_run 8 = .ok (.getfield 37, 3) := by decide +kernel
theorem dX2_run_11 : decode cX2_run 11 = .ok (.ifCond .eq 7, 3) := by decide +kernel
theorem dX2_run_14 : decode cX2_run 14 = .ok (.iconst 0, 1) := by decide +kernel
theorem dX2_run_15 : decode cX2_run 15 = .ok (.goto 4, 3) := by decide +kernel
theorem dX2_run_18 : decode cX2_run 18 = .ok (.iconst (-1), 1) := by decide +kernel
theorem dX2_run_19 : decode cX2_run 19 = .ok (.istore_n 2, 1) := by decide +kernel
theorem dX2_run_20 : decode cX2_run 20 = .ok (.aload_n 0, 1) := by decide +kernel
theorem dX2_run_21 : decode cX2_run 21 = .ok (.getfield 30, 3) := by decide +kernel
theorem dX2_run_24 : decode cX2_run 24 = .ok (.iconst 0, 1) := by decide +kernel
theorem dX2_run_25 : decode cX2_run 25 = .ok (.putfield 43, 3) := by decide +kernel
theorem dX2_run_28 : decode cX2_run 28 = .ok (.iconst 0, 1) := by decide +kernel
theorem dX2_run_29 : decode cX2_run 29 = .ok (.istore_n 3, 1) := by decide +kernel
theorem dX2_run_30 : decode cX2_run 30 = .ok (.iload_n 3, 1) := by decide +kernel
theorem dX2_run_31 : decode cX2_run 31 = .ok (.ldc 47, 2) := by decide +kernel
theorem dX2_run_33 : decode cX2_run 33 = .ok (.if_icmp .ge 20, 3) := by decide +kernel
theorem dX2_run_36 : decode cX2_run 36 = .ok (.iload_n 2, 1) := by decide +kernel
theorem dX2_run_37 : decode cX2_run 37 = .ok (.iconst (-1), 1) := by decide +kernel
theorem dX2_run_38 : decode cX2_run 38 = .ok (.if_icmp .ne 15, 3) := by decide +kernel
theorem dX2_run_41 : decode cX2_run 41 = .ok (.aload_n 0, 1) := by decide +kernel
theorem dX2_run_42 : decode cX2_run 42 = .ok (.iload_n 1, 1) := by decide +kernel
theorem dX2_run_43 : decode cX2_run 43 = .ok (.invokevirtual 48, 3) := by decide +kernel
theorem dX2_run_46 : decode cX2_run 46 = .ok (.istore_n 2, 1) := by decide +kernel
theorem dX2_run_47 : decode cX2_run 47 = .ok (.iinc 3 1, 3) := by decide +kernel
theorem dX2_run_50 : decode cX2_run 50 = .ok (.goto (-20), 3) := by decide +kernel
theorem dX2_run_53 : decode cX2_run 53 = .ok (.aload_n 0, 1) := by decide +kernel
theorem dX2_run_54 : decode cX2_run 54 = .ok (.iconst (-1), 1) := by decide +kernel
theorem dX2_run_55 : decode cX2_run 55 = .ok (.invokevirtual 52, 3) := by decide +kernel
theorem dX2_run_58 : decode cX2_run 58 = .ok (.aload_n 0, 1) := by decide +kernel
theorem dX2_run_59 : decode cX2_run 59 = .ok (.getfield 30, 3) := by decide +kernel
theorem dX2_run_62 : decode cX2_run 62 = .ok (.iload_n 2, 1) := by decide +kernel
theorem dX2_run_63 : decode cX2_run 63 = .ok (.putfield 55, 3) := by decide +kernel
theorem dX2_run_66 : decode cX2_run 66 = .ok (.iload_n 2, 1) := by decide +kernel
theorem dX2_run_67 : decode cX2_run 67 = .ok (.ireturn, 1) := by decide +kernel
theorem dX2_drawAll_0 : decode cX2_drawAll 0 = .ok (.aload_n 0, 1) := by decide +kernel
theorem dX2_drawAll_1 : decode cX2_drawAll 1 = .ok (.invokevirtual 34, 3) := by decide +kernel
theorem dX2_drawAll_4 : decode cX2_drawAll 4 = .ok (.aload_n 0, 1) := by decide +kernel
theorem dX2_drawAll_5 : decode cX2_drawAll 5 = .ok (.invokevirtual 58, 3) := by decide +kernel
theorem dX2_drawAll_8 : decode cX2_drawAll 8 = .ok (.iconst 0, 1) := by decide +kernel
theorem dX2_drawAll_9 : decode cX2_drawAll 9 = .ok (.istore_n 1, 1) := by decide +kernel
theorem dX2_drawAll_10 : decode cX2_drawAll 10 = .ok (.iload_n 1, 1) := by decide +kernel
theorem dX2_drawAll_11 : decode cX2_drawAll 11 = .ok (.bipush 30, 2) := by decide +kernel
theorem dX2_drawAll_13 : decode cX2_drawAll 13 = .ok (.if_icmp .ge 37, 3) := by decide +kernel
theorem dX2_drawAll_16 : decode cX2_drawAll 16 = .ok (.aload_n 0, 1) := by decide +kernel
theorem dX2_drawAll_17 : decode cX2_drawAll 17 = .ok (.getfield 61, 3) := by decide +kernel
theorem dX2_drawAll_20 : decode cX2_drawAll 20 = .ok (.iconst (-1), 1) := by decide +kernel
theorem dX2_drawAll_21 : decode cX2_drawAll 21 = .ok (.if_icmp .eq 29, 3) := by decide +kernel
theorem dX2_drawAll_24 : decode cX2_drawAll 24 = .ok (.aload_n 0, 1) := by decide +kernel
theorem dX2_drawAll_25 : decode cX2_drawAll 25 = .ok (.aload_n 0, 1) := by decide +kernel
theorem dX2_drawAll_26 : decode cX2_drawAll 26 = .ok (.aload_n 0, 1) := by decide +kernel
theorem dX2_drawAll_27 : decode cX2_drawAll 27 = .ok (.getfield 61, 3) := by decide +kernel
theorem dX2_drawAll_30 : decode cX2_drawAll 30 = .ok (.invokevirtual 64, 3) := by decide +kernel
theorem dX2_drawAll_33 : decode cX2_drawAll 33 = .ok (.aload_n 0, 1) := by decide +kernel
theorem dX2_drawAll_34 : decode cX2_drawAll 34 = .ok (.getfield 61, 3) := by decide +kernel
theorem dX2_drawAll_37 : decode cX2_drawAll 37 = .ok (.invokevirtual 67, 3) := by decide +kernel
theorem dX2_drawAll_40 : decode cX2_drawAll 40 = .ok (.aload_n 0, 1) := by decide +kernel
theorem dX2_drawAll_41 : decode cX2_drawAll 41 = .ok (.invokevirtual 58, 3) := by decide +kernel
theorem dX2_drawAll_44 : decode cX2_drawAll 44 = .ok (.iinc 1 1, 3) := by decide +kernel
theorem dX2_drawAll_47 : decode cX2_drawAll 47 = .ok (.goto (-37), 3) := by decide +kernel
theorem dX2_drawAll_50 : decode cX2_drawAll 50 = .ok (.aload_n 0, 1) := by decide +kernel
theorem dX2_drawAll_51 : decode cX2_drawAll 51 = .ok (.getfield 71, 3) := by decide +kernel
theorem dX2_drawAll_54 : decode cX2_drawAll 54 = .ok (.iconst (-1), 1) := by decide +kernel
theorem dX2_drawAll_55 : decode cX2_drawAll 55 = .ok (.if_icmp .eq 7, 3) := by decide +kernel
theorem dX2_drawAll_58 : decode cX2_drawAll 58 = .ok (.iconst 1, 1) := by decide +kernel
theorem dX2_drawAll_59 : decode cX2_drawAll 59 = .ok (.goto 4, 3) := by decide +kernel
theorem dX2_drawAll_62 : decode cX2_drawAll 62 = .ok (.iconst 0, 1) := by decide +kernel
theorem dX2_drawAll_63 : decode cX2_drawAll 63 = .ok (.ireturn, 1) := by decide +kernel
theorem dX2_startEmpty_0 : decode cX2_startEmpty 0 = .ok (.aload_n 0, 1) := by decide +kernel
theorem dX2_startEmpty_1 : decode cX2_startEmpty 1 = .ok (.iconst 0, 1) := by decide +kernel
theorem dX2_startEmpty_2 : decode cX2_startEmpty 2 = .ok (.putfield 74, 3) := by decide +kernel
theorem dX2_startEmpty_5 : decode cX2_startEmpty 5 = .ok (.aload_n 0, 1) := by decide +kernel
theorem dX2_startEmpty_6 : decode cX2_startEmpty 6 = .ok (.iconst 0, 1) := by decide +kernel
theorem dX2_startEmpty_7 : decode cX2_startEmpty 7 = .ok (.putfield 77, 3) := by decide +kernel
theorem dX2_startEmpty_10 : decode cX2_startEmpty 10 = .ok (.aload_n 0, 1) := by decide +kernel
theorem dX2_startEmpty_11 : decode cX2_startEmpty 11 = .ok (.iconst 0, 1) := by decide +kernel
theorem dX2_startEmpty_12 : decode cX2_startEmpty 12 = .ok (.putfield 80, 3) := by decide +kernel
theorem dX2_startEmpty_15 : decode cX2_startEmpty 15 = .ok (.aload_n 0, 1) := by decide +kernel
theorem dX2_startEmpty_16 : decode cX2_startEmpty 16 = .ok (.iconst 0, 1) := by decide +kernel
theorem dX2_startEmpty_17 : decode cX2_startEmpty 17 = .ok (.putfield 83, 3) := by decide +kernel
theorem dX2_startEmpty_20 : decode cX2_startEmpty 20 = .ok (.aload_n 0, 1) := by decide +kernel
theorem dX2_startEmpty_21 : decode cX2_startEmpty 21 = .ok (.iconst 0, 1) := by decide +kernel
theorem dX2_startEmpty_22 : decode cX2_startEmpty 22 = .ok (.putfield 86, 3) := by decide +kernel
theorem dX2_startEmpty_25 : decode cX2_startEmpty 25 = .ok (.aload_n 0, 1) := by decide +kernel
theorem dX2_startEmpty_26 : decode cX2_startEmpty 26 = .ok (.iconst 0, 1) := by decide +kernel
theorem dX2_startEmpty_27 : decode cX2_startEmpty 27 = .ok (.putfield 89, 3) := by decide +kernel
theorem dX2_startEmpty_30 : decode cX2_startEmpty 30 = .ok (.aload_n 0, 1) := by decide +kernel
theorem dX2_startEmpty_31 : decode cX2_startEmpty 31 = .ok (.iconst 0, 1) := by decide +kernel
theorem dX2_startEmpty_32 : decode cX2_startEmpty 32 = .ok (.putfield 92, 3) := by decide +kernel
theorem dX2_startEmpty_35 : decode cX2_startEmpty 35 = .ok (.return_, 1) := by decide +kernel
theorem dX2_step_0 : decode cX2_step 0 = .ok (.aload_n 0, 1) := by decide +kernel
theorem dX2_step_1 : decode cX2_step 1 = .ok (.invokevirtual 58, 3) := by decide +kernel
theorem dX2_step_4 : decode cX2_step 4 = .ok (.aload_n 0, 1) := by decide +kernel
theorem dX2_step_5 : decode cX2_step 5 = .ok (.getfield 71, 3) := by decide +kernel
theorem dX2_step_8 : decode cX2_step 8 = .ok (.iconst (-1), 1) := by decide +kernel
theorem dX2_step_9 : decode cX2_step 9 = .ok (.if_icmp .eq 9, 3) := by decide +kernel
theorem dX2_step_12 : decode cX2_step 12 = .ok (.aload_n 0, 1) := by decide +kernel
theorem dX2_step_13 : decode cX2_step 13 = .ok (.iload_n 1, 1) := by decide +kernel
theorem dX2_step_14 : decode cX2_step 14 = .ok (.invokevirtual 95, 3) := by decide +kernel
theorem dX2_step_17 : decode cX2_step 17 = .ok (.ireturn, 1) := by decide +kernel
theorem dX2_step_18 : decode cX2_step 18 = .ok (.aload_n 0, 1) := by decide +kernel
theorem dX2_step_19 : decode cX2_step 19 = .ok (.getfield 61, 3) := by decide +kernel
theorem dX2_step_22 : decode cX2_step 22 = .ok (.iconst (-1), 1) := by decide +kernel
theorem dX2_step_23 : decode cX2_step 23 = .ok (.if_icmp .eq 34, 3) := by decide +kernel
theorem dX2_step_26 : decode cX2_step 26 = .ok (.aload_n 0, 1) := by decide +kernel
theorem dX2_step_27 : decode cX2_step 27 = .ok (.getfield 30, 3) := by decide +kernel
theorem dX2_step_30 : decode cX2_step 30 = .ok (.dup, 1) := by decide +kernel
theorem dX2_step_31 : decode cX2_step 31 = .ok (.getfield 98, 3) := by decide +kernel
theorem dX2_step_34 : decode cX2_step 34 = .ok (.iconst 1, 1) := by decide +kernel
theorem dX2_step_35 : decode cX2_step 35 = .ok (.iadd, 1) := by decide +kernel
theorem dX2_step_36 : decode cX2_step 36 = .ok (.putfield 98, 3) := by decide +kernel
theorem dX2_step_39 : decode cX2_step 39 = .ok (.aload_n 0, 1) := by decide +kernel
theorem dX2_step_40 : decode cX2_step 40 = .ok (.aload_n 0, 1) := by decide +kernel
theorem dX2_step_41 : decode cX2_step 41 = .ok (.aload_n 0, 1) := by decide +kernel
theorem dX2_step_42 : decode cX2_step 42 = .ok (.getfield 61, 3) := by decide +kernel
theorem dX2_step_45 : decode cX2_step 45 = .ok (.invokevirtual 64, 3) := by decide +kernel
theorem dX2_step_48 : decode cX2_step 48 = .ok (.aload_n 0, 1) := by decide +kernel
theorem dX2_step_49 : decode cX2_step 49 = .ok (.getfield 61, 3) := by decide +kernel
theorem dX2_step_52 : decode cX2_step 52 = .ok (.invokevirtual 67, 3) := by decide +kernel
theorem dX2_step_55 : decode cX2_step 55 = .ok (.iconst (-1), 1) := by decide +kernel
theorem dX2_step_56 : decode cX2_step 56 = .ok (.ireturn, 1) := by decide +kernel
theorem dX2_step_57 : decode cX2_step 57 = .ok (.aload_n 0, 1) := by decide +kernel
theorem dX2_step_58 : decode cX2_step 58 = .ok (.invokevirtual 101, 3) := by decide +kernel
theorem dX2_step_61 : decode cX2_step 61 = .ok (.istore_n 2, 1) := by decide +kernel
theorem dX2_step_62 : decode cX2_step 62 = .ok (.iload_n 2, 1) := by decide +kernel
theorem dX2_step_63 : decode cX2_step 63 = .ok (.iconst (-1), 1) := by decide +kernel
theorem dX2_step_64 : decode cX2_step 64 = .ok (.if_icmp .eq 9, 3) := by decide +kernel
theorem dX2_step_67 : decode cX2_step 67 = .ok (.aload_n 0, 1) := by decide +kernel
theorem dX2_step_68 : decode cX2_step 68 = .ok (.iload_n 2, 1) := by decide +kernel
theorem dX2_step_69 : decode cX2_step 69 = .ok (.invokevirtual 105, 3) := by decide +kernel
theorem dX2_step_72 : decode cX2_step 72 = .ok (.ireturn, 1) := by decide +kernel
theorem dX2_step_73 : decode cX2_step 73 = .ok (.aload_n 0, 1) := by decide +kernel
theorem dX2_step_74 : decode cX2_step 74 = .ok (.getfield 74, 3) := by decide +kernel
theorem dX2_step_77 : decode cX2_step 77 = .ok (.aload_n 0, 1) := by decide +kernel
theorem dX2_step_78 : decode cX2_step 78 = .ok (.getfield 30, 3) := by decide +kernel
theorem dX2_step_81 : decode cX2_step 81 = .ok (.getfield 108, 3) := by decide +kernel
theorem dX2_step_84 : decode cX2_step 84 = .ok (.if_icmp .lt 30, 3) := by decide +kernel
theorem dX2_step_87 : decode cX2_step 87 = .ok (.aload_n 0, 1) := by decide +kernel
theorem dX2_step_88 : decode cX2_step 88 = .ok (.getfield 30, 3) := by decide +kernel
theorem dX2_step_91 : decode cX2_step 91 = .ok (.aload_n 0, 1) := by decide +kernel
theorem dX2_step_92 : decode cX2_step 92 = .ok (.getfield 77, 3) := by decide +kernel
theorem dX2_step_95 : decode cX2_step 95 = .ok (.putfield 111, 3) := by decide +kernel
theorem dX2_step_98 : decode cX2_step 98 = .ok (.aload_n 0, 1) := by decide +kernel
theorem dX2_step_99 : decode cX2_step 99 = .ok (.getfield 30, 3) := by decide +kernel
theorem dX2_step_102 : decode cX2_step 102 = .ok (.aload_n 0, 1) := by decide +kernel
theorem dX2_step_103 : decode cX2_step 103 = .ok (.getfield 30, 3) := by decide +kernel
theorem dX2_step_106 : decode cX2_step 106 = .ok (.getfield 108, 3) := by decide +kernel
theorem dX2_step_109 : decode cX2_step 109 = .ok (.putfield 114, 3) := by decide +kernel
theorem dX2_step_112 : decode cX2_step 112 = .ok (.iconst 1, 1) := by decide +kernel
theorem dX2_step_113 : decode cX2_step 113 = .ok (.ireturn, 1) := by decide +kernel
theorem dX2_step_114 : decode cX2_step 114 = .ok (.aload_n 0, 1) := by decide +kernel
theorem dX2_step_115 : decode cX2_step 115 = .ok (.invokevirtual 117, 3) := by decide +kernel
theorem dX2_step_118 : decode cX2_step 118 = .ok (.iconst (-1), 1) := by decide +kernel
theorem dX2_step_119 : decode cX2_step 119 = .ok (.ireturn, 1) := by decide +kernel
theorem dX2_look_0 : decode cX2_look 0 = .ok (.aload_n 0, 1) := by decide +kernel
theorem dX2_look_1 : decode cX2_look 1 = .ok (.getfield 30, 3) := by decide +kernel
theorem dX2_look_4 : decode cX2_look 4 = .ok (.getfield 120, 3) := by decide +kernel
theorem dX2_look_7 : decode cX2_look 7 = .ok (.astore_n 1, 1) := by decide +kernel
theorem dX2_look_8 : decode cX2_look 8 = .ok (.aload_n 0, 1) := by decide +kernel
theorem dX2_look_9 : decode cX2_look 9 = .ok (.getfield 77, 3) := by decide +kernel
theorem dX2_look_12 : decode cX2_look 12 = .ok (.aload_n 0, 1) := by decide +kernel
theorem dX2_look_13 : decode cX2_look 13 = .ok (.getfield 80, 3) := by decide +kernel
theorem dX2_look_16 : decode cX2_look 16 = .ok (.ior, 1) := by decide +kernel
theorem dX2_look_17 : decode cX2_look 17 = .ok (.istore_n 2, 1) := by decide +kernel
theorem dX2_look_18 : decode cX2_look 18 = .ok (.aload_n 0, 1) := by decide +kernel
theorem dX2_look_19 : decode cX2_look 19 = .ok (.iconst (-1), 1) := by decide +kernel
theorem dX2_look_20 : decode cX2_look 20 = .ok (.putfield 71, 3) := by decide +kernel
theorem dX2_look_23 : decode cX2_look 23 = .ok (.aload_n 0, 1) := by decide +kernel
theorem dX2_look_24 : decode cX2_look 24 = .ok (.iconst (-1), 1) := by decide +kernel
theorem dX2_look_25 : decode cX2_look 25 = .ok (.putfield 61, 3) := by decide +kernel
theorem dX2_look_28 : decode cX2_look 28 = .ok (.iconst 0, 1) := by decide +kernel
theorem dX2_look_29 : decode cX2_look 29 = .ok (.istore_n 3, 1) := by decide +kernel
theorem dX2_look_30 : decode cX2_look 30 = .ok (.iload_n 3, 1) := by decide +kernel
theorem dX2_look_31 : decode cX2_look 31 = .ok (.aload_n 1, 1) := by decide +kernel
theorem dX2_look_32 : decode cX2_look 32 = .ok (.getfield 124, 3) := by decide +kernel
theorem dX2_look_35 : decode cX2_look 35 = .ok (.if_icmp .ge 118, 3) := by decide +kernel
theorem dX2_look_38 : decode cX2_look 38 = .ok (.aload_n 1, 1) := by decide +kernel
theorem dX2_look_39 : decode cX2_look 39 = .ok (.getfield 129, 3) := by decide +kernel
theorem dX2_look_42 : decode cX2_look 42 = .ok (.iload_n 3, 1) := by decide +kernel
theorem dX2_look_43 : decode cX2_look 43 = .ok (.iaload, 1) := by decide +kernel
theorem dX2_look_44 : decode cX2_look 44 = .ok (.istore 4, 2) := by decide +kernel
theorem dX2_look_46 : decode cX2_look 46 = .ok (.aload_n 1, 1) := by decide +kernel
theorem dX2_look_47 : decode cX2_look 47 = .ok (.getfield 132, 3) := by decide +kernel
theorem dX2_look_50 : decode cX2_look 50 = .ok (.iload_n 3, 1) := by decide +kernel
theorem dX2_look_51 : decode cX2_look 51 = .ok (.iaload, 1) := by decide +kernel
theorem dX2_look_52 : decode cX2_look 52 = .ok (.istore 5, 2) := by decide +kernel
theorem dX2_look_54 : decode cX2_look 54 = .ok (.iload 4, 2) := by decide +kernel
theorem dX2_look_56 : decode cX2_look 56 = .ok (.aload_n 0, 1) := by decide +kernel
theorem dX2_look_57 : decode cX2_look 57 = .ok (.getfield 77, 3) := by decide +kernel
theorem dX2_look_60 : decode cX2_look 60 = .ok (.iand, 1) := by decide +kernel
theorem dX2_look_61 : decode cX2_look 61 = .ok (.iload 5, 2) := by decide +kernel
theorem dX2_look_63 : decode cX2_look 63 = .ok (.aload_n 0, 1) := by decide +kernel
theorem dX2_look_64 : decode cX2_look 64 = .ok (.getfield 80, 3) := by decide +kernel
theorem dX2_look_67 : decode cX2_look 67 = .ok (.iand, 1) := by decide +kernel
theorem dX2_look_68 : decode cX2_look 68 = .ok (.ior, 1) := by decide +kernel
theorem dX2_look_69 : decode cX2_look 69 = .ok (.ifCond .ne 78, 3) := by decide +kernel
theorem dX2_look_72 : decode cX2_look 72 = .ok (.aload_n 1, 1) := by decide +kernel
theorem dX2_look_73 : decode cX2_look 73 = .ok (.getfield 135, 3) := by decide +kernel
theorem dX2_look_76 : decode cX2_look 76 = .ok (.iload_n 3, 1) := by decide +kernel
theorem dX2_look_77 : decode cX2_look 77 = .ok (.baload, 1) := by decide +kernel
theorem dX2_look_78 : decode cX2_look 78 = .ok (.iconst 2, 1) := by decide +kernel
theorem dX2_look_79 : decode cX2_look 79 = .ok (.if_icmp .ne 6, 3) := by decide +kernel
theorem dX2_look_82 : decode cX2_look 82 = .ok (.goto 65, 3) := by decide +kernel
theorem dX2_look_85 : decode cX2_look 85 = .ok (.iload 4, 2) := by decide +kernel
theorem dX2_look_87 : decode cX2_look 87 = .ok (.iload 5, 2) := by decide +kernel
theorem dX2_look_89 : decode cX2_look 89 = .ok (.ior, 1) := by decide +kernel
theorem dX2_look_90 : decode cX2_look 90 = .ok (.iload_n 2, 1) := by decide +kernel
theorem dX2_look_91 : decode cX2_look 91 = .ok (.iconst (-1), 1) := by decide +kernel
theorem dX2_look_92 : decode cX2_look 92 = .ok (.ixor, 1) := by decide +kernel
theorem dX2_look_93 : decode cX2_look 93 = .ok (.iand, 1) := by decide +kernel
theorem dX2_look_94 : decode cX2_look 94 = .ok (.istore 6, 2) := by decide +kernel
theorem dX2_look_96 : decode cX2_look 96 = .ok (.iload 6, 2) := by decide +kernel
theorem dX2_look_98 : decode cX2_look 98 = .ok (.ifCond .ne 26, 3) := by decide +kernel
theorem dX2_look_101 : decode cX2_look 101 = .ok (.aload_n 0, 1) := by decide +kernel
theorem dX2_look_102 : decode cX2_look 102 = .ok (.aload_n 0, 1) := by decide +kernel
theorem dX2_look_103 : decode cX2_look 103 = .ok (.getfield 71, 3) := by decide +kernel
theorem dX2_look_106 : decode cX2_look 106 = .ok (.iconst (-1), 1) := by decide +kernel
theorem dX2_look_107 : decode cX2_look 107 = .ok (.if_icmp .ne 7, 3) := by decide +kernel
theorem dX2_look_110 : decode cX2_look 110 = .ok (.iload_n 3, 1) := by decide +kernel
theorem dX2_look_111 : decode cX2_look 111 = .ok (.goto 7, 3) := by decide +kernel
theorem dX2_look_114 : decode cX2_look 114 = .ok (.aload_n 0, 1) := by decide +kernel
theorem dX2_look_115 : decode cX2_look 115 = .ok (.getfield 71, 3) := by decide +kernel
theorem dX2_look_118 : decode cX2_look 118 = .ok (.putfield 71, 3) := by decide +kernel
theorem dX2_look_121 : decode cX2_look 121 = .ok (.goto 26, 3) := by decide +kernel
theorem dX2_look_124 : decode cX2_look 124 = .ok (.aload_n 0, 1) := by decide +kernel
theorem dX2_look_125 : decode cX2_look 125 = .ok (.getfield 61, 3) := by decide +kernel
theorem dX2_look_128 : decode cX2_look 128 = .ok (.iconst (-1), 1) := by decide +kernel
theorem dX2_look_129 : decode cX2_look 129 = .ok (.if_icmp .ne 18, 3) := by decide +kernel
theorem dX2_look_132 : decode cX2_look 132 = .ok (.iload 6, 2) := by decide +kernel
theorem dX2_look_134 : decode cX2_look 134 = .ok (.iload 6, 2) := by decide +kernel
theorem dX2_look_136 : decode cX2_look 136 = .ok (.iconst 1, 1) := by decide +kernel
theorem dX2_look_137 : decode cX2_look 137 = .ok (.isub, 1) := by decide +kernel
theorem dX2_look_138 : decode cX2_look 138 = .ok (.iand, 1) := by decide +kernel
theorem dX2_look_139 : decode cX2_look 139 = .ok (.ifCond .ne 8, 3) := by decide +kernel
theorem dX2_look_142 : decode cX2_look 142 = .ok (.aload_n 0, 1) := by decide +kernel
theorem dX2_look_143 : decode cX2_look 143 = .ok (.iload_n 3, 1) := by decide +kernel
theorem dX2_look_144 : decode cX2_look 144 = .ok (.putfield 61, 3) := by decide +kernel
theorem dX2_look_147 : decode cX2_look 147 = .ok (.iinc 3 1, 3) := by decide +kernel
theorem dX2_look_150 : decode cX2_look 150 = .ok (.goto (-120), 3) := by decide +kernel
theorem dX2_look_153 : decode cX2_look 153 = .ok (.return_, 1) := by decide +kernel
theorem dX2_openLiteralOf_0 : decode cX2_openLiteralOf 0 = .ok (.aload_n 0, 1) := by decide +kernel
theorem dX2_openLiteralOf_1 : decode cX2_openLiteralOf 1 = .ok (.getfield 30, 3) := by decide +kernel
theorem dX2_openLiteralOf_4 : decode cX2_openLiteralOf 4 = .ok (.getfield 120, 3) := by decide +kernel
theorem dX2_openLiteralOf_7 : decode cX2_openLiteralOf 7 = .ok (.iload_n 1, 1) := by decide +kernel
theorem dX2_openLiteralOf_8 : decode cX2_openLiteralOf 8 = .ok (.invokevirtual 139, 3) := by decide +kernel
theorem dX2_openLiteralOf_11 : decode cX2_openLiteralOf 11 = .ok (.aload_n 0, 1) := by decide +kernel
theorem dX2_openLiteralOf_12 : decode cX2_openLiteralOf 12 = .ok (.getfield 77, 3) := by decide +kernel
theorem dX2_openLiteralOf_15 : decode cX2_openLiteralOf 15 = .ok (.aload_n 0, 1) := by decide +kernel
theorem dX2_openLiteralOf_16 : decode cX2_openLiteralOf 16 = .ok (.getfield 80, 3) := by decide +kernel
theorem dX2_openLiteralOf_19 : decode cX2_openLiteralOf 19 = .ok (.ior, 1) := by decide +kernel
theorem dX2_openLiteralOf_20 : decode cX2_openLiteralOf 20 = .ok (.iconst (-1), 1) := by decide +kernel
theorem dX2_openLiteralOf_21 : decode cX2_openLiteralOf 21 = .ok (.ixor, 1) := by decide +kernel
theorem dX2_openLiteralOf_22 : decode cX2_openLiteralOf 22 = .ok (.iand, 1) := by decide +kernel
theorem dX2_openLiteralOf_23 : decode cX2_openLiteralOf 23 = .ok (.istore_n 2, 1) := by decide +kernel
theorem dX2_openLiteralOf_24 : decode cX2_openLiteralOf 24 = .ok (.iload_n 2, 1) := by decide +kernel
theorem dX2_openLiteralOf_25 : decode cX2_openLiteralOf 25 = .ok (.iconst 1, 1) := by decide +kernel
theorem dX2_openLiteralOf_26 : decode cX2_openLiteralOf 26 = .ok (.isub, 1) := by decide +kernel
theorem dX2_openLiteralOf_27 : decode cX2_openLiteralOf 27 = .ok (.invokestatic 142, 3) := by decide +kernel
theorem dX2_openLiteralOf_30 : decode cX2_openLiteralOf 30 = .ok (.iconst 1, 1) := by decide +kernel
theorem dX2_openLiteralOf_31 : decode cX2_openLiteralOf 31 = .ok (.iadd, 1) := by decide +kernel
theorem dX2_openLiteralOf_32 : decode cX2_openLiteralOf 32 = .ok (.istore_n 3, 1) := by decide +kernel
theorem dX2_openLiteralOf_33 : decode cX2_openLiteralOf 33 = .ok (.aload_n 0, 1) := by decide +kernel
theorem dX2_openLiteralOf_34 : decode cX2_openLiteralOf 34 = .ok (.getfield 30, 3) := by decide +kernel
theorem dX2_openLiteralOf_37 : decode cX2_openLiteralOf 37 = .ok (.getfield 120, 3) := by decide +kernel
theorem dX2_openLiteralOf_40 : decode cX2_openLiteralOf 40 = .ok (.getfield 129, 3) := by decide +kernel
theorem dX2_openLiteralOf_43 : decode cX2_openLiteralOf 43 = .ok (.iload_n 1, 1) := by decide +kernel
theorem dX2_openLiteralOf_44 : decode cX2_openLiteralOf 44 = .ok (.iaload, 1) := by decide +kernel
theorem dX2_openLiteralOf_45 : decode cX2_openLiteralOf 45 = .ok (.iload_n 2, 1) := by decide +kernel
theorem dX2_openLiteralOf_46 : decode cX2_openLiteralOf 46 = .ok (.iand, 1) := by decide +kernel
theorem dX2_openLiteralOf_47 : decode cX2_openLiteralOf 47 = .ok (.ifCond .eq 7, 3) := by decide +kernel
theorem dX2_openLiteralOf_50 : decode cX2_openLiteralOf 50 = .ok (.iload_n 3, 1) := by decide +kernel
theorem dX2_openLiteralOf_51 : decode cX2_openLiteralOf 51 = .ok (.goto 5, 3) := by decide +kernel
theorem dX2_openLiteralOf_54 : decode cX2_openLiteralOf 54 = .ok (.iload_n 3, 1) := by decide +kernel
theorem dX2_openLiteralOf_55 : decode cX2_openLiteralOf 55 = .ok (.ineg, 1) := by decide +kernel
theorem dX2_openLiteralOf_56 : decode cX2_openLiteralOf 56 = .ok (.ireturn, 1) := by decide +kernel
theorem dX2_put_0 : decode cX2_put 0 = .ok (.iload_n 1, 1) := by decide +kernel
theorem dX2_put_1 : decode cX2_put 1 = .ok (.invokestatic 147, 3) := by decide +kernel
theorem dX2_put_4 : decode cX2_put 4 = .ok (.istore_n 3, 1) := by decide +kernel
theorem dX2_put_5 : decode cX2_put 5 = .ok (.aload_n 0, 1) := by decide +kernel
theorem dX2_put_6 : decode cX2_put 6 = .ok (.getfield 74, 3) := by decide +kernel
theorem dX2_put_9 : decode cX2_put 9 = .ok (.aload_n 0, 1) := by decide +kernel
theorem dX2_put_10 : decode cX2_put 10 = .ok (.getfield 9, 3) := by decide +kernel
theorem dX2_put_13 : decode cX2_put 13 = .ok (.arraylength, 1) := by decide +kernel
theorem dX2_put_14 : decode cX2_put 14 = .ok (.if_icmp .ge 14, 3) := by decide +kernel
theorem dX2_put_17 : decode cX2_put 17 = .ok (.iload_n 3, 1) := by decide +kernel
theorem dX2_put_18 : decode cX2_put 18 = .ok (.iconst 1, 1) := by decide +kernel
theorem dX2_put_19 : decode cX2_put 19 = .ok (.if_icmp .lt 9, 3) := by decide +kernel
theorem dX2_put_22 : decode cX2_put 22 = .ok (.iload_n 3, 1) := by decide +kernel
theorem dX2_put_23 : decode cX2_put 23 = .ok (.bipush 30, 2) := by decide +kernel
theorem dX2_put_25 : decode cX2_put 25 = .ok (.if_icmp .le 4, 3) := by decide +kernel
theorem dX2_put_28 : decode cX2_put 28 = .ok (.return_, 1) := by decide +kernel
theorem dX2_put_29 : decode cX2_put 29 = .ok (.aload_n 0, 1) := by decide +kernel
theorem dX2_put_30 : decode cX2_put 30 = .ok (.getfield 9, 3) := by decide +kernel
theorem dX2_put_33 : decode cX2_put 33 = .ok (.aload_n 0, 1) := by decide +kernel
theorem dX2_put_34 : decode cX2_put 34 = .ok (.getfield 74, 3) := by decide +kernel
theorem dX2_put_37 : decode cX2_put 37 = .ok (.iload_n 1, 1) := by decide +kernel
theorem dX2_put_38 : decode cX2_put 38 = .ok (.iastore, 1) := by decide +kernel
theorem dX2_put_39 : decode cX2_put 39 = .ok (.aload_n 0, 1) := by decide +kernel
theorem dX2_put_40 : decode cX2_put 40 = .ok (.dup, 1) := by decide +kernel
theorem dX2_put_41 : decode cX2_put 41 = .ok (.getfield 74, 3) := by decide +kernel
theorem dX2_put_44 : decode cX2_put 44 = .ok (.iconst 1, 1) := by decide +kernel
theorem dX2_put_45 : decode cX2_put 45 = .ok (.iadd, 1) := by decide +kernel
theorem dX2_put_46 : decode cX2_put 46 = .ok (.putfield 74, 3) := by decide +kernel
theorem dX2_put_49 : decode cX2_put 49 = .ok (.aload_n 0, 1) := by decide +kernel
theorem dX2_put_50 : decode cX2_put 50 = .ok (.getfield 15, 3) := by decide +kernel
theorem dX2_put_53 : decode cX2_put 53 = .ok (.iload_n 3, 1) := by decide +kernel
theorem dX2_put_54 : decode cX2_put 54 = .ok (.aload_n 0, 1) := by decide +kernel
theorem dX2_put_55 : decode cX2_put 55 = .ok (.getfield 83, 3) := by decide +kernel
theorem dX2_put_58 : decode cX2_put 58 = .ok (.iastore, 1) := by decide +kernel
theorem dX2_put_59 : decode cX2_put 59 = .ok (.aload_n 0, 1) := by decide +kernel
theorem dX2_put_60 : decode cX2_put 60 = .ok (.getfield 18, 3) := by decide +kernel
theorem dX2_put_63 : decode cX2_put 63 = .ok (.iload_n 3, 1) := by decide +kernel
theorem dX2_put_64 : decode cX2_put 64 = .ok (.iload_n 2, 1) := by decide +kernel
theorem dX2_put_65 : decode cX2_put 65 = .ok (.iastore, 1) := by decide +kernel
theorem dX2_put_66 : decode cX2_put 66 = .ok (.iload_n 1, 1) := by decide +kernel
theorem dX2_put_67 : decode cX2_put 67 = .ok (.ifCond .le 19, 3) := by decide +kernel
theorem dX2_put_70 : decode cX2_put 70 = .ok (.aload_n 0, 1) := by decide +kernel
theorem dX2_put_71 : decode cX2_put 71 = .ok (.dup, 1) := by decide +kernel
theorem dX2_put_72 : decode cX2_put 72 = .ok (.getfield 77, 3) := by decide +kernel
theorem dX2_put_75 : decode cX2_put 75 = .ok (.iload_n 1, 1) := by decide +kernel
theorem dX2_put_76 : decode cX2_put 76 = .ok (.invokestatic 150, 3) := by decide +kernel
theorem dX2_put_79 : decode cX2_put 79 = .ok (.ior, 1) := by decide +kernel
theorem dX2_put_80 : decode cX2_put 80 = .ok (.putfield 77, 3) := by decide +kernel
theorem dX2_put_83 : decode cX2_put 83 = .ok (.goto 16, 3) := by decide +kernel
theorem dX2_put_86 : decode cX2_put 86 = .ok (.aload_n 0, 1) := by decide +kernel
theorem dX2_put_87 : decode cX2_put 87 = .ok (.dup, 1) := by decide +kernel
theorem dX2_put_88 : decode cX2_put 88 = .ok (.getfield 80, 3) := by decide +kernel
theorem dX2_put_91 : decode cX2_put 91 = .ok (.iload_n 1, 1) := by decide +kernel
theorem dX2_put_92 : decode cX2_put 92 = .ok (.invokestatic 150, 3) := by decide +kernel
theorem dX2_put_95 : decode cX2_put 95 = .ok (.ior, 1) := by decide +kernel
theorem dX2_put_96 : decode cX2_put 96 = .ok (.putfield 80, 3) := by decide +kernel
theorem dX2_put_99 : decode cX2_put 99 = .ok (.return_, 1) := by decide +kernel
theorem dX2_leaveAbove_0 : decode cX2_leaveAbove 0 = .ok (.aload_n 0, 1) := by decide +kernel
theorem dX2_leaveAbove_1 : decode cX2_leaveAbove 1 = .ok (.getfield 74, 3) := by decide +kernel
theorem dX2_leaveAbove_4 : decode cX2_leaveAbove 4 = .ok (.iconst 1, 1) := by decide +kernel
theorem dX2_leaveAbove_5 : decode cX2_leaveAbove 5 = .ok (.isub, 1) := by decide +kernel
theorem dX2_leaveAbove_6 : decode cX2_leaveAbove 6 = .ok (.istore_n 2, 1) := by decide +kernel
theorem dX2_leaveAbove_7 : decode cX2_leaveAbove 7 = .ok (.iload_n 2, 1) := by decide +kernel
theorem dX2_leaveAbove_8 : decode cX2_leaveAbove 8 = .ok (.ifCond .lt 105, 3) := by decide +kernel
theorem dX2_leaveAbove_11 : decode cX2_leaveAbove 11 = .ok (.aload_n 0, 1) := by decide +kernel
theorem dX2_leaveAbove_12 : decode cX2_leaveAbove 12 = .ok (.getfield 15, 3) := by decide +kernel
theorem dX2_leaveAbove_15 : decode cX2_leaveAbove 15 = .ok (.aload_n 0, 1) := by decide +kernel
theorem dX2_leaveAbove_16 : decode cX2_leaveAbove 16 = .ok (.getfield 9, 3) := by decide +kernel
theorem dX2_leaveAbove_19 : decode cX2_leaveAbove 19 = .ok (.iload_n 2, 1) := by decide +kernel
theorem dX2_leaveAbove_20 : decode cX2_leaveAbove 20 = .ok (.iaload, 1) := by decide +kernel
theorem dX2_leaveAbove_21 : decode cX2_leaveAbove 21 = .ok (.invokestatic 147, 3) := by decide +kernel
theorem dX2_leaveAbove_24 : decode cX2_leaveAbove 24 = .ok (.iaload, 1) := by decide +kernel
theorem dX2_leaveAbove_25 : decode cX2_leaveAbove 25 = .ok (.iload_n 1, 1) := by decide +kernel
theorem dX2_leaveAbove_26 : decode cX2_leaveAbove 26 = .ok (.if_icmp .le 87, 3) := by decide +kernel
theorem dX2_leaveAbove_29 : decode cX2_leaveAbove 29 = .ok (.aload_n 0, 1) := by decide +kernel
theorem dX2_leaveAbove_30 : decode cX2_leaveAbove 30 = .ok (.getfield 9, 3) := by decide +kernel
theorem dX2_leaveAbove_33 : decode cX2_leaveAbove 33 = .ok (.iload_n 2, 1) := by decide +kernel
theorem dX2_leaveAbove_34 : decode cX2_leaveAbove 34 = .ok (.iaload, 1) := by decide +kernel
theorem dX2_leaveAbove_35 : decode cX2_leaveAbove 35 = .ok (.invokestatic 150, 3) := by decide +kernel
theorem dX2_leaveAbove_38 : decode cX2_leaveAbove 38 = .ok (.istore_n 3, 1) := by decide +kernel
theorem dX2_leaveAbove_39 : decode cX2_leaveAbove 39 = .ok (.aload_n 0, 1) := by decide +kernel
theorem dX2_leaveAbove_40 : decode cX2_leaveAbove 40 = .ok (.getfield 30, 3) := by decide +kernel
theorem dX2_leaveAbove_43 : decode cX2_leaveAbove 43 = .ok (.aload_n 0, 1) := by decide +kernel
theorem dX2_leaveAbove_44 : decode cX2_leaveAbove 44 = .ok (.getfield 9, 3) := by decide +kernel
theorem dX2_leaveAbove_47 : decode cX2_leaveAbove 47 = .ok (.iload_n 2, 1) := by decide +kernel
theorem dX2_leaveAbove_48 : decode cX2_leaveAbove 48 = .ok (.iaload, 1) := by decide +kernel
theorem dX2_leaveAbove_49 : decode cX2_leaveAbove 49 = .ok (.ifCond .le 15, 3) := by decide +kernel
theorem dX2_leaveAbove_52 : decode cX2_leaveAbove 52 = .ok (.aload_n 0, 1) := by decide +kernel
theorem dX2_leaveAbove_53 : decode cX2_leaveAbove 53 = .ok (.getfield 30, 3) := by decide +kernel
theorem dX2_leaveAbove_56 : decode cX2_leaveAbove 56 = .ok (.getfield 153, 3) := by decide +kernel
theorem dX2_leaveAbove_59 : decode cX2_leaveAbove 59 = .ok (.iload_n 3, 1) := by decide +kernel
theorem dX2_leaveAbove_60 : decode cX2_leaveAbove 60 = .ok (.ior, 1) := by decide +kernel
theorem dX2_leaveAbove_61 : decode cX2_leaveAbove 61 = .ok (.goto 14, 3) := by decide +kernel
theorem dX2_leaveAbove_64 : decode cX2_leaveAbove 64 = .ok (.aload_n 0, 1) := by decide +kernel
theorem dX2_leaveAbove_65 : decode cX2_leaveAbove 65 = .ok (.getfield 30, 3) := by decide +kernel
theorem dX2_leaveAbove_68 : decode cX2_leaveAbove 68 = .ok (.getfield 153, 3) := by decide +kernel
theorem dX2_leaveAbove_71 : decode cX2_leaveAbove 71 = .ok (.iload_n 3, 1) := by decide +kernel
theorem dX2_leaveAbove_72 : decode cX2_leaveAbove 72 = .ok (.iconst (-1), 1) := by decide +kernel
theorem dX2_leaveAbove_73 : decode cX2_leaveAbove 73 = .ok (.ixor, 1) := by decide +kernel
theorem dX2_leaveAbove_74 : decode cX2_leaveAbove 74 = .ok (.iand, 1) := by decide +kernel
theorem dX2_leaveAbove_75 : decode cX2_leaveAbove 75 = .ok (.putfield 153, 3) := by decide +kernel
theorem dX2_leaveAbove_78 : decode cX2_leaveAbove 78 = .ok (.aload_n 0, 1) := by decide +kernel
theorem dX2_leaveAbove_79 : decode cX2_leaveAbove 79 = .ok (.dup, 1) := by decide +kernel
theorem dX2_leaveAbove_80 : decode cX2_leaveAbove 80 = .ok (.getfield 77, 3) := by decide +kernel
theorem dX2_leaveAbove_83 : decode cX2_leaveAbove 83 = .ok (.iload_n 3, 1) := by decide +kernel
theorem dX2_leaveAbove_84 : decode cX2_leaveAbove 84 = .ok (.iconst (-1), 1) := by decide +kernel
theorem dX2_leaveAbove_85 : decode cX2_leaveAbove 85 = .ok (.ixor, 1) := by decide +kernel
theorem dX2_leaveAbove_86 : decode cX2_leaveAbove 86 = .ok (.iand, 1) := by decide +kernel
theorem dX2_leaveAbove_87 : decode cX2_leaveAbove 87 = .ok (.putfield 77, 3) := by decide +kernel
theorem dX2_leaveAbove_90 : decode cX2_leaveAbove 90 = .ok (.aload_n 0, 1) := by decide +kernel
theorem dX2_leaveAbove_91 : decode cX2_leaveAbove 91 = .ok (.dup, 1) := by decide +kernel
theorem dX2_leaveAbove_92 : decode cX2_leaveAbove 92 = .ok (.getfield 80, 3) := by decide +kernel
theorem dX2_leaveAbove_95 : decode cX2_leaveAbove 95 = .ok (.iload_n 3, 1) := by decide +kernel
theorem dX2_leaveAbove_96 : decode cX2_leaveAbove 96 = .ok (.iconst (-1), 1) := by decide +kernel
theorem dX2_leaveAbove_97 : decode cX2_leaveAbove 97 = .ok (.ixor, 1) := by decide +kernel
theorem dX2_leaveAbove_98 : decode cX2_leaveAbove 98 = .ok (.iand, 1) := by decide +kernel
theorem dX2_leaveAbove_99 : decode cX2_leaveAbove 99 = .ok (.putfield 80, 3) := by decide +kernel
theorem dX2_leaveAbove_102 : decode cX2_leaveAbove 102 = .ok (.aload_n 0, 1) := by decide +kernel
theorem dX2_leaveAbove_103 : decode cX2_leaveAbove 103 = .ok (.iload_n 2, 1) := by decide +kernel
theorem dX2_leaveAbove_104 : decode cX2_leaveAbove 104 = .ok (.putfield 74, 3) := by decide +kernel
theorem dX2_leaveAbove_107 : decode cX2_leaveAbove 107 = .ok (.iinc 2 (-1), 3) := by decide +kernel
theorem dX2_leaveAbove_110 : decode cX2_leaveAbove 110 = .ok (.goto (-103), 3) := by decide +kernel
theorem dX2_leaveAbove_113 : decode cX2_leaveAbove 113 = .ok (.aload_n 0, 1) := by decide +kernel
theorem dX2_leaveAbove_114 : decode cX2_leaveAbove 114 = .ok (.iload_n 1, 1) := by decide +kernel
theorem dX2_leaveAbove_115 : decode cX2_leaveAbove 115 = .ok (.iconst 0, 1) := by decide +kernel
theorem dX2_leaveAbove_116 : decode cX2_leaveAbove 116 = .ok (.invokestatic 156, 3) := by decide +kernel
theorem dX2_leaveAbove_119 : decode cX2_leaveAbove 119 = .ok (.putfield 83, 3) := by decide +kernel
theorem dX2_leaveAbove_122 : decode cX2_leaveAbove 122 = .ok (.return_, 1) := by decide +kernel
theorem dX2_firstAssumptionNotTrue_0 : decode cX2_firstAssumptionNotTrue 0 = .ok (.aload_n 0, 1) := by decide +kernel
theorem dX2_firstAssumptionNotTrue_1 : decode cX2_firstAssumptionNotTrue 1 = .ok (.getfield 30, 3) := by decide +kernel
theorem dX2_firstAssumptionNotTrue_4 : decode cX2_firstAssumptionNotTrue 4 = .ok (.getfield 162, 3) := by decide +kernel
theorem dX2_firstAssumptionNotTrue_7 : decode cX2_firstAssumptionNotTrue 7 = .ok (.astore_n 1, 1) := by decide +kernel
theorem dX2_firstAssumptionNotTrue_8 : decode cX2_firstAssumptionNotTrue 8 = .ok (.iconst 0, 1) := by decide +kernel
theorem dX2_firstAssumptionNotTrue_9 : decode cX2_firstAssumptionNotTrue 9 = .ok (.istore_n 2, 1) := by decide +kernel
theorem dX2_firstAssumptionNotTrue_10 : decode cX2_firstAssumptionNotTrue 10 = .ok (.iload_n 2, 1) := by decide +kernel
theorem dX2_firstAssumptionNotTrue_11 : decode cX2_firstAssumptionNotTrue 11 = .ok (.aload_n 1, 1) := by decide +kernel
theorem dX2_firstAssumptionNotTrue_12 : decode cX2_firstAssumptionNotTrue 12 = .ok (.getfield 165, 3) := by decide +kernel
theorem dX2_firstAssumptionNotTrue_15 : decode cX2_firstAssumptionNotTrue 15 = .ok (.if_icmp .ge 41, 3) := by decide +kernel
theorem dX2_firstAssumptionNotTrue_18 : decode cX2_firstAssumptionNotTrue 18 = .ok (.aload_n 1, 1) := by decide +kernel
theorem dX2_firstAssumptionNotTrue_19 : decode cX2_firstAssumptionNotTrue 19 = .ok (.getfield 168, 3) := by decide +kernel
theorem dX2_firstAssumptionNotTrue_22 : decode cX2_firstAssumptionNotTrue 22 = .ok (.iload_n 2, 1) := by decide +kernel
theorem dX2_firstAssumptionNotTrue_23 : decode cX2_firstAssumptionNotTrue 23 = .ok (.iaload, 1) := by decide +kernel
theorem dX2_firstAssumptionNotTrue_24 : decode cX2_firstAssumptionNotTrue 24 = .ok (.istore_n 3, 1) := by decide +kernel
theorem dX2_firstAssumptionNotTrue_25 : decode cX2_firstAssumptionNotTrue 25 = .ok (.iload_n 3, 1) := by decide +kernel
theorem dX2_firstAssumptionNotTrue_26 : decode cX2_firstAssumptionNotTrue 26 = .ok (.ifCond .le 10, 3) := by decide +kernel
theorem dX2_firstAssumptionNotTrue_29 : decode cX2_firstAssumptionNotTrue 29 = .ok (.aload_n 0, 1) := by decide +kernel
theorem dX2_firstAssumptionNotTrue_30 : decode cX2_firstAssumptionNotTrue 30 = .ok (.getfield 77, 3) := by decide +kernel
theorem dX2_firstAssumptionNotTrue_33 : decode cX2_firstAssumptionNotTrue 33 = .ok (.goto 7, 3) := by decide +kernel
theorem dX2_firstAssumptionNotTrue_36 : decode cX2_firstAssumptionNotTrue 36 = .ok (.aload_n 0, 1) := by decide +kernel
theorem dX2_firstAssumptionNotTrue_37 : decode cX2_firstAssumptionNotTrue 37 = .ok (.getfield 80, 3) := by decide +kernel
theorem dX2_firstAssumptionNotTrue_40 : decode cX2_firstAssumptionNotTrue 40 = .ok (.iload_n 3, 1) := by decide +kernel
theorem dX2_firstAssumptionNotTrue_41 : decode cX2_firstAssumptionNotTrue 41 = .ok (.invokestatic 150, 3) := by decide +kernel
theorem dX2_firstAssumptionNotTrue_44 : decode cX2_firstAssumptionNotTrue 44 = .ok (.iand, 1) := by decide +kernel
theorem dX2_firstAssumptionNotTrue_45 : decode cX2_firstAssumptionNotTrue 45 = .ok (.ifCond .ne 5, 3) := by decide +kernel
theorem dX2_firstAssumptionNotTrue_48 : decode cX2_firstAssumptionNotTrue 48 = .ok (.iload_n 2, 1) := by decide +kernel
theorem dX2_firstAssumptionNotTrue_49 : decode cX2_firstAssumptionNotTrue 49 = .ok (.ireturn, 1) := by decide +kernel
theorem dX2_firstAssumptionNotTrue_50 : decode cX2_firstAssumptionNotTrue 50 = .ok (.iinc 2 1, 3) := by decide +kernel
theorem dX2_firstAssumptionNotTrue_53 : decode cX2_firstAssumptionNotTrue 53 = .ok (.goto (-43), 3) := by decide +kernel
theorem dX2_firstAssumptionNotTrue_56 : decode cX2_firstAssumptionNotTrue 56 = .ok (.iconst (-1), 1) := by decide +kernel
theorem dX2_firstAssumptionNotTrue_57 : decode cX2_firstAssumptionNotTrue 57 = .ok (.ireturn, 1) := by decide +kernel
theorem dX2_takeAssumption_0 : decode cX2_takeAssumption 0 = .ok (.aload_n 0, 1) := by decide +kernel
theorem dX2_takeAssumption_1 : decode cX2_takeAssumption 1 = .ok (.getfield 30, 3) := by decide +kernel
theorem dX2_takeAssumption_4 : decode cX2_takeAssumption 4 = .ok (.getfield 162, 3) := by decide +kernel
theorem dX2_takeAssumption_7 : decode cX2_takeAssumption 7 = .ok (.getfield 168, 3) := by decide +kernel
theorem dX2_takeAssumption_10 : decode cX2_takeAssumption 10 = .ok (.iload_n 1, 1) := by decide +kernel
theorem dX2_takeAssumption_11 : decode cX2_takeAssumption 11 = .ok (.iaload, 1) := by decide +kernel
theorem dX2_takeAssumption_12 : decode cX2_takeAssumption 12 = .ok (.istore_n 2, 1) := by decide +kernel
theorem dX2_takeAssumption_13 : decode cX2_takeAssumption 13 = .ok (.aload_n 0, 1) := by decide +kernel
theorem dX2_takeAssumption_14 : decode cX2_takeAssumption 14 = .ok (.getfield 77, 3) := by decide +kernel
theorem dX2_takeAssumption_17 : decode cX2_takeAssumption 17 = .ok (.aload_n 0, 1) := by decide +kernel
theorem dX2_takeAssumption_18 : decode cX2_takeAssumption 18 = .ok (.getfield 80, 3) := by decide +kernel
theorem dX2_takeAssumption_21 : decode cX2_takeAssumption 21 = .ok (.ior, 1) := by decide +kernel
theorem dX2_takeAssumption_22 : decode cX2_takeAssumption 22 = .ok (.iload_n 2, 1) := by decide +kernel
theorem dX2_takeAssumption_23 : decode cX2_takeAssumption 23 = .ok (.invokestatic 150, 3) := by decide +kernel
theorem dX2_takeAssumption_26 : decode cX2_takeAssumption 26 = .ok (.iand, 1) := by decide +kernel
theorem dX2_takeAssumption_27 : decode cX2_takeAssumption 27 = .ok (.ifCond .ne 21, 3) := by decide +kernel
theorem dX2_takeAssumption_30 : decode cX2_takeAssumption 30 = .ok (.aload_n 0, 1) := by decide +kernel
theorem dX2_takeAssumption_31 : decode cX2_takeAssumption 31 = .ok (.dup, 1) := by decide +kernel
theorem dX2_takeAssumption_32 : decode cX2_takeAssumption 32 = .ok (.getfield 83, 3) := by decide +kernel
theorem dX2_takeAssumption_35 : decode cX2_takeAssumption 35 = .ok (.iconst 1, 1) := by decide +kernel
theorem dX2_takeAssumption_36 : decode cX2_takeAssumption 36 = .ok (.iadd, 1) := by decide +kernel
theorem dX2_takeAssumption_37 : decode cX2_takeAssumption 37 = .ok (.putfield 83, 3) := by decide +kernel
theorem dX2_takeAssumption_40 : decode cX2_takeAssumption 40 = .ok (.aload_n 0, 1) := by decide +kernel
theorem dX2_takeAssumption_41 : decode cX2_takeAssumption 41 = .ok (.iload_n 2, 1) := by decide +kernel
theorem dX2_takeAssumption_42 : decode cX2_takeAssumption 42 = .ok (.iconst (-1), 1) := by decide +kernel
theorem dX2_takeAssumption_43 : decode cX2_takeAssumption 43 = .ok (.invokevirtual 67, 3) := by decide +kernel
theorem dX2_takeAssumption_46 : decode cX2_takeAssumption 46 = .ok (.iconst (-1), 1) := by decide +kernel
theorem dX2_takeAssumption_47 : decode cX2_takeAssumption 47 = .ok (.ireturn, 1) := by decide +kernel
theorem dX2_takeAssumption_48 : decode cX2_takeAssumption 48 = .ok (.aload_n 0, 1) := by decide +kernel
theorem dX2_takeAssumption_49 : decode cX2_takeAssumption 49 = .ok (.getfield 30, 3) := by decide +kernel
theorem dX2_takeAssumption_52 : decode cX2_takeAssumption 52 = .ok (.aload_n 0, 1) := by decide +kernel
theorem dX2_takeAssumption_53 : decode cX2_takeAssumption 53 = .ok (.iload_n 1, 1) := by decide +kernel
theorem dX2_takeAssumption_54 : decode cX2_takeAssumption 54 = .ok (.invokevirtual 171, 3) := by decide +kernel
theorem dX2_takeAssumption_57 : decode cX2_takeAssumption 57 = .ok (.putfield 43, 3) := by decide +kernel
theorem dX2_takeAssumption_60 : decode cX2_takeAssumption 60 = .ok (.iconst 0, 1) := by decide +kernel
theorem dX2_takeAssumption_61 : decode cX2_takeAssumption 61 = .ok (.ireturn, 1) := by decide +kernel
theorem dX2_coreOf_0 : decode cX2_coreOf 0 = .ok (.iconst 1, 1) := by decide +kernel
theorem dX2_coreOf_1 : decode cX2_coreOf 1 = .ok (.iload_n 1, 1) := by decide +kernel
theorem dX2_coreOf_2 : decode cX2_coreOf 2 = .ok (.ishl, 1) := by decide +kernel
theorem dX2_coreOf_3 : decode cX2_coreOf 3 = .ok (.istore_n 2, 1) := by decide +kernel
theorem dX2_coreOf_4 : decode cX2_coreOf 4 = .ok (.aload_n 0, 1) := by decide +kernel
theorem dX2_coreOf_5 : decode cX2_coreOf 5 = .ok (.getfield 30, 3) := by decide +kernel
theorem dX2_coreOf_8 : decode cX2_coreOf 8 = .ok (.getfield 162, 3) := by decide +kernel
theorem dX2_coreOf_11 : decode cX2_coreOf 11 = .ok (.getfield 168, 3) := by decide +kernel
theorem dX2_coreOf_14 : decode cX2_coreOf 14 = .ok (.iload_n 1, 1) := by decide +kernel
theorem dX2_coreOf_15 : decode cX2_coreOf 15 = .ok (.iaload, 1) := by decide +kernel
theorem dX2_coreOf_16 : decode cX2_coreOf 16 = .ok (.invokestatic 150, 3) := by decide +kernel
theorem dX2_coreOf_19 : decode cX2_coreOf 19 = .ok (.istore_n 3, 1) := by decide +kernel
theorem dX2_coreOf_20 : decode cX2_coreOf 20 = .ok (.aload_n 0, 1) := by decide +kernel
theorem dX2_coreOf_21 : decode cX2_coreOf 21 = .ok (.getfield 74, 3) := by decide +kernel
theorem dX2_coreOf_24 : decode cX2_coreOf 24 = .ok (.iconst 1, 1) := by decide +kernel
theorem dX2_coreOf_25 : decode cX2_coreOf 25 = .ok (.isub, 1) := by decide +kernel
theorem dX2_coreOf_26 : decode cX2_coreOf 26 = .ok (.istore 4, 2) := by decide +kernel
theorem dX2_coreOf_28 : decode cX2_coreOf 28 = .ok (.iload 4, 2) := by decide +kernel
theorem dX2_coreOf_30 : decode cX2_coreOf 30 = .ok (.ifCond .lt 87, 3) := by decide +kernel
theorem dX2_coreOf_33 : decode cX2_coreOf 33 = .ok (.aload_n 0, 1) := by decide +kernel
theorem dX2_coreOf_34 : decode cX2_coreOf 34 = .ok (.getfield 9, 3) := by decide +kernel
theorem dX2_coreOf_37 : decode cX2_coreOf 37 = .ok (.iload 4, 2) := by decide +kernel
theorem dX2_coreOf_39 : decode cX2_coreOf 39 = .ok (.iaload, 1) := by decide +kernel
theorem dX2_coreOf_40 : decode cX2_coreOf 40 = .ok (.invokestatic 147, 3) := by decide +kernel
theorem dX2_coreOf_43 : decode cX2_coreOf 43 = .ok (.istore 5, 2) := by decide +kernel
theorem dX2_coreOf_45 : decode cX2_coreOf 45 = .ok (.iload_n 3, 1) := by decide +kernel
theorem dX2_coreOf_46 : decode cX2_coreOf 46 = .ok (.iload 5, 2) := by decide +kernel
theorem dX2_coreOf_48 : decode cX2_coreOf 48 = .ok (.invokestatic 150, 3) := by decide +kernel
theorem dX2_coreOf_51 : decode cX2_coreOf 51 = .ok (.iand, 1) := by decide +kernel
theorem dX2_coreOf_52 : decode cX2_coreOf 52 = .ok (.ifCond .ne 6, 3) := by decide +kernel
theorem dX2_coreOf_55 : decode cX2_coreOf 55 = .ok (.goto 56, 3) := by decide +kernel
theorem dX2_coreOf_58 : decode cX2_coreOf 58 = .ok (.aload_n 0, 1) := by decide +kernel
theorem dX2_coreOf_59 : decode cX2_coreOf 59 = .ok (.getfield 18, 3) := by decide +kernel
theorem dX2_coreOf_62 : decode cX2_coreOf 62 = .ok (.iload 5, 2) := by decide +kernel
theorem dX2_coreOf_64 : decode cX2_coreOf 64 = .ok (.iaload, 1) := by decide +kernel
theorem dX2_coreOf_65 : decode cX2_coreOf 65 = .ok (.iconst (-1), 1) := by decide +kernel
theorem dX2_coreOf_66 : decode cX2_coreOf 66 = .ok (.if_icmp .eq 26, 3) := by decide +kernel
theorem dX2_coreOf_69 : decode cX2_coreOf 69 = .ok (.iload_n 3, 1) := by decide +kernel
theorem dX2_coreOf_70 : decode cX2_coreOf 70 = .ok (.aload_n 0, 1) := by decide +kernel
theorem dX2_coreOf_71 : decode cX2_coreOf 71 = .ok (.getfield 30, 3) := by decide +kernel
theorem dX2_coreOf_74 : decode cX2_coreOf 74 = .ok (.getfield 120, 3) := by decide +kernel
theorem dX2_coreOf_77 : decode cX2_coreOf 77 = .ok (.aload_n 0, 1) := by decide +kernel
theorem dX2_coreOf_78 : decode cX2_coreOf 78 = .ok (.getfield 18, 3) := by decide +kernel
theorem dX2_coreOf_81 : decode cX2_coreOf 81 = .ok (.iload 5, 2) := by decide +kernel
theorem dX2_coreOf_83 : decode cX2_coreOf 83 = .ok (.iaload, 1) := by decide +kernel
theorem dX2_coreOf_84 : decode cX2_coreOf 84 = .ok (.invokevirtual 139, 3) := by decide +kernel
theorem dX2_coreOf_87 : decode cX2_coreOf 87 = .ok (.ior, 1) := by decide +kernel
theorem dX2_coreOf_88 : decode cX2_coreOf 88 = .ok (.istore_n 3, 1) := by decide +kernel
theorem dX2_coreOf_89 : decode cX2_coreOf 89 = .ok (.goto 22, 3) := by decide +kernel
theorem dX2_coreOf_92 : decode cX2_coreOf 92 = .ok (.aload_n 0, 1) := by decide +kernel
theorem dX2_coreOf_93 : decode cX2_coreOf 93 = .ok (.getfield 15, 3) := by decide +kernel
theorem dX2_coreOf_96 : decode cX2_coreOf 96 = .ok (.iload 5, 2) := by decide +kernel
theorem dX2_coreOf_98 : decode cX2_coreOf 98 = .ok (.iaload, 1) := by decide +kernel
theorem dX2_coreOf_99 : decode cX2_coreOf 99 = .ok (.ifCond .le 12, 3) := by decide +kernel
theorem dX2_coreOf_102 : decode cX2_coreOf 102 = .ok (.iload_n 2, 1) := by decide +kernel
theorem dX2_coreOf_103 : decode cX2_coreOf 103 = .ok (.aload_n 0, 1) := by decide +kernel
theorem dX2_coreOf_104 : decode cX2_coreOf 104 = .ok (.iload 5, 2) := by decide +kernel
theorem dX2_coreOf_106 : decode cX2_coreOf 106 = .ok (.invokevirtual 174, 3) := by decide +kernel
theorem dX2_coreOf_109 : decode cX2_coreOf 109 = .ok (.ior, 1) := by decide +kernel
theorem dX2_coreOf_110 : decode cX2_coreOf 110 = .ok (.istore_n 2, 1) := by decide +kernel
theorem dX2_coreOf_111 : decode cX2_coreOf 111 = .ok (.iinc 4 (-1), 3) := by decide +kernel
theorem dX2_coreOf_114 : decode cX2_coreOf 114 = .ok (.goto (-86), 3) := by decide +kernel
theorem dX2_coreOf_117 : decode cX2_coreOf 117 = .ok (.iload_n 2, 1) := by decide +kernel
theorem dX2_coreOf_118 : decode cX2_coreOf 118 = .ok (.ireturn, 1) := by decide +kernel
theorem dX2_assumptionBitOf_0 : decode cX2_assumptionBitOf 0 = .ok (.iconst 0, 1) := by decide +kernel
theorem dX2_assumptionBitOf_1 : decode cX2_assumptionBitOf 1 = .ok (.istore_n 2, 1) := by decide +kernel
theorem dX2_assumptionBitOf_2 : decode cX2_assumptionBitOf 2 = .ok (.iload_n 2, 1) := by decide +kernel
theorem dX2_assumptionBitOf_3 : decode cX2_assumptionBitOf 3 = .ok (.aload_n 0, 1) := by decide +kernel
theorem dX2_assumptionBitOf_4 : decode cX2_assumptionBitOf 4 = .ok (.getfield 30, 3) := by decide +kernel
theorem dX2_assumptionBitOf_7 : decode cX2_assumptionBitOf 7 = .ok (.getfield 162, 3) := by decide +kernel
theorem dX2_assumptionBitOf_10 : decode cX2_assumptionBitOf 10 = .ok (.getfield 165, 3) := by decide +kernel
theorem dX2_assumptionBitOf_13 : decode cX2_assumptionBitOf 13 = .ok (.if_icmp .ge 32, 3) := by decide +kernel
theorem dX2_assumptionBitOf_16 : decode cX2_assumptionBitOf 16 = .ok (.aload_n 0, 1) := by decide +kernel
theorem dX2_assumptionBitOf_17 : decode cX2_assumptionBitOf 17 = .ok (.getfield 30, 3) := by decide +kernel
theorem dX2_assumptionBitOf_20 : decode cX2_assumptionBitOf 20 = .ok (.getfield 162, 3) := by decide +kernel
theorem dX2_assumptionBitOf_23 : decode cX2_assumptionBitOf 23 = .ok (.getfield 168, 3) := by decide +kernel
theorem dX2_assumptionBitOf_26 : decode cX2_assumptionBitOf 26 = .ok (.iload_n 2, 1) := by decide +kernel
theorem dX2_assumptionBitOf_27 : decode cX2_assumptionBitOf 27 = .ok (.iaload, 1) := by decide +kernel
theorem dX2_assumptionBitOf_28 : decode cX2_assumptionBitOf 28 = .ok (.invokestatic 147, 3) := by decide +kernel
theorem dX2_assumptionBitOf_31 : decode cX2_assumptionBitOf 31 = .ok (.iload_n 1, 1) := by decide +kernel
theorem dX2_assumptionBitOf_32 : decode cX2_assumptionBitOf 32 = .ok (.if_icmp .ne 7, 3) := by decide +kernel
theorem dX2_assumptionBitOf_35 : decode cX2_assumptionBitOf 35 = .ok (.iconst 1, 1) := by decide +kernel
theorem dX2_assumptionBitOf_36 : decode cX2_assumptionBitOf 36 = .ok (.iload_n 2, 1) := by decide +kernel
theorem dX2_assumptionBitOf_37 : decode cX2_assumptionBitOf 37 = .ok (.ishl, 1) := by decide +kernel
theorem dX2_assumptionBitOf_38 : decode cX2_assumptionBitOf 38 = .ok (.ireturn, 1) := by decide +kernel
theorem dX2_assumptionBitOf_39 : decode cX2_assumptionBitOf 39 = .ok (.iinc 2 1, 3) := by decide +kernel
theorem dX2_assumptionBitOf_42 : decode cX2_assumptionBitOf 42 = .ok (.goto (-40), 3) := by decide +kernel
theorem dX2_assumptionBitOf_45 : decode cX2_assumptionBitOf 45 = .ok (.iconst 0, 1) := by decide +kernel
theorem dX2_assumptionBitOf_46 : decode cX2_assumptionBitOf 46 = .ok (.ireturn, 1) := by decide +kernel
theorem dX2_decide_0 : decode cX2_decide 0 = .ok (.iconst 0, 1) := by decide +kernel
theorem dX2_decide_1 : decode cX2_decide 1 = .ok (.istore_n 1, 1) := by decide +kernel
theorem dX2_decide_2 : decode cX2_decide 2 = .ok (.iconst 1, 1) := by decide +kernel
theorem dX2_decide_3 : decode cX2_decide 3 = .ok (.istore_n 2, 1) := by decide +kernel
theorem dX2_decide_4 : decode cX2_decide 4 = .ok (.iload_n 2, 1) := by decide +kernel
theorem dX2_decide_5 : decode cX2_decide 5 = .ok (.aload_n 0, 1) := by decide +kernel
theorem dX2_decide_6 : decode cX2_decide 6 = .ok (.getfield 30, 3) := by decide +kernel
theorem dX2_decide_9 : decode cX2_decide 9 = .ok (.getfield 108, 3) := by decide +kernel
theorem dX2_decide_12 : decode cX2_decide 12 = .ok (.if_icmp .gt 63, 3) := by decide +kernel
theorem dX2_decide_15 : decode cX2_decide 15 = .ok (.aload_n 0, 1) := by decide +kernel
theorem dX2_decide_16 : decode cX2_decide 16 = .ok (.getfield 77, 3) := by decide +kernel
theorem dX2_decide_19 : decode cX2_decide 19 = .ok (.aload_n 0, 1) := by decide +kernel
theorem dX2_decide_20 : decode cX2_decide 20 = .ok (.getfield 80, 3) := by decide +kernel
theorem dX2_decide_23 : decode cX2_decide 23 = .ok (.ior, 1) := by decide +kernel
theorem dX2_decide_24 : decode cX2_decide 24 = .ok (.iload_n 2, 1) := by decide +kernel
theorem dX2_decide_25 : decode cX2_decide 25 = .ok (.invokestatic 150, 3) := by decide +kernel
theorem dX2_decide_28 : decode cX2_decide 28 = .ok (.iand, 1) := by decide +kernel
theorem dX2_decide_29 : decode cX2_decide 29 = .ok (.ifCond .ne 7, 3) := by decide +kernel
theorem dX2_decide_32 : decode cX2_decide 32 = .ok (.iconst 1, 1) := by decide +kernel
theorem dX2_decide_33 : decode cX2_decide 33 = .ok (.goto 4, 3) := by decide +kernel
theorem dX2_decide_36 : decode cX2_decide 36 = .ok (.iconst 0, 1) := by decide +kernel
theorem dX2_decide_37 : decode cX2_decide 37 = .ok (.istore_n 3, 1) := by decide +kernel
theorem dX2_decide_38 : decode cX2_decide 38 = .ok (.iload_n 3, 1) := by decide +kernel
theorem dX2_decide_39 : decode cX2_decide 39 = .ok (.ifCond .eq 30, 3) := by decide +kernel
theorem dX2_decide_42 : decode cX2_decide 42 = .ok (.iload_n 1, 1) := by decide +kernel
theorem dX2_decide_43 : decode cX2_decide 43 = .ok (.ifCond .eq 24, 3) := by decide +kernel
theorem dX2_decide_46 : decode cX2_decide 46 = .ok (.aload_n 0, 1) := by decide +kernel
theorem dX2_decide_47 : decode cX2_decide 47 = .ok (.getfield 30, 3) := by decide +kernel
theorem dX2_decide_50 : decode cX2_decide 50 = .ok (.getfield 177, 3) := by decide +kernel
theorem dX2_decide_53 : decode cX2_decide 53 = .ok (.iload_n 2, 1) := by decide +kernel
theorem dX2_decide_54 : decode cX2_decide 54 = .ok (.iaload, 1) := by decide +kernel
theorem dX2_decide_55 : decode cX2_decide 55 = .ok (.aload_n 0, 1) := by decide +kernel
theorem dX2_decide_56 : decode cX2_decide 56 = .ok (.getfield 30, 3) := by decide +kernel
theorem dX2_decide_59 : decode cX2_decide 59 = .ok (.getfield 177, 3) := by decide +kernel
theorem dX2_decide_62 : decode cX2_decide 62 = .ok (.iload_n 1, 1) := by decide +kernel
theorem dX2_decide_63 : decode cX2_decide 63 = .ok (.iaload, 1) := by decide +kernel
theorem dX2_decide_64 : decode cX2_decide 64 = .ok (.if_icmp .le 5, 3) := by decide +kernel
theorem dX2_decide_67 : decode cX2_decide 67 = .ok (.iload_n 2, 1) := by decide +kernel
theorem dX2_decide_68 : decode cX2_decide 68 = .ok (.istore_n 1, 1) := by decide +kernel
theorem dX2_decide_69 : decode cX2_decide 69 = .ok (.iinc 2 1, 3) := by decide +kernel
theorem dX2_decide_72 : decode cX2_decide 72 = .ok (.goto (-68), 3) := by decide +kernel
theorem dX2_decide_75 : decode cX2_decide 75 = .ok (.aload_n 0, 1) := by decide +kernel
theorem dX2_decide_76 : decode cX2_decide 76 = .ok (.dup, 1) := by decide +kernel
theorem dX2_decide_77 : decode cX2_decide 77 = .ok (.getfield 83, 3) := by decide +kernel
theorem dX2_decide_80 : decode cX2_decide 80 = .ok (.iconst 1, 1) := by decide +kernel
theorem dX2_decide_81 : decode cX2_decide 81 = .ok (.iadd, 1) := by decide +kernel
theorem dX2_decide_82 : decode cX2_decide 82 = .ok (.putfield 83, 3) := by decide +kernel
theorem dX2_decide_85 : decode cX2_decide 85 = .ok (.aload_n 0, 1) := by decide +kernel
theorem dX2_decide_86 : decode cX2_decide 86 = .ok (.getfield 30, 3) := by decide +kernel
theorem dX2_decide_89 : decode cX2_decide 89 = .ok (.dup, 1) := by decide +kernel
theorem dX2_decide_90 : decode cX2_decide 90 = .ok (.getfield 180, 3) := by decide +kernel
theorem dX2_decide_93 : decode cX2_decide 93 = .ok (.iconst 1, 1) := by decide +kernel
theorem dX2_decide_94 : decode cX2_decide 94 = .ok (.iadd, 1) := by decide +kernel
theorem dX2_decide_95 : decode cX2_decide 95 = .ok (.putfield 180, 3) := by decide +kernel
theorem dX2_decide_98 : decode cX2_decide 98 = .ok (.aload_n 0, 1) := by decide +kernel
theorem dX2_decide_99 : decode cX2_decide 99 = .ok (.aload_n 0, 1) := by decide +kernel
theorem dX2_decide_100 : decode cX2_decide 100 = .ok (.getfield 30, 3) := by decide +kernel
theorem dX2_decide_103 : decode cX2_decide 103 = .ok (.iload_n 1, 1) := by decide +kernel
theorem dX2_decide_104 : decode cX2_decide 104 = .ok (.invokevirtual 183, 3) := by decide +kernel
theorem dX2_decide_107 : decode cX2_decide 107 = .ok (.ifCond .eq 7, 3) := by decide +kernel
theorem dX2_decide_110 : decode cX2_decide 110 = .ok (.iload_n 1, 1) := by decide +kernel
theorem dX2_decide_111 : decode cX2_decide 111 = .ok (.goto 5, 3) := by decide +kernel
theorem dX2_decide_114 : decode cX2_decide 114 = .ok (.iload_n 1, 1) := by decide +kernel
theorem dX2_decide_115 : decode cX2_decide 115 = .ok (.ineg, 1) := by decide +kernel
theorem dX2_decide_116 : decode cX2_decide 116 = .ok (.iconst (-1), 1) := by decide +kernel
theorem dX2_decide_117 : decode cX2_decide 117 = .ok (.invokevirtual 67, 3) := by decide +kernel
theorem dX2_decide_120 : decode cX2_decide 120 = .ok (.return_, 1) := by decide +kernel
theorem dX2_meetConflict_0 : decode cX2_meetConflict 0 = .ok (.aload_n 0, 1) := by decide +kernel
theorem dX2_meetConflict_1 : decode cX2_meetConflict 1 = .ok (.getfield 83, 3) := by decide +kernel
theorem dX2_meetConflict_4 : decode cX2_meetConflict 4 = .ok (.ifCond .ne 13, 3) := by decide +kernel
theorem dX2_meetConflict_7 : decode cX2_meetConflict 7 = .ok (.aload_n 0, 1) := by decide +kernel
theorem dX2_meetConflict_8 : decode cX2_meetConflict 8 = .ok (.getfield 30, 3) := by decide +kernel
theorem dX2_meetConflict_11 : decode cX2_meetConflict 11 = .ok (.iconst 1, 1) := by decide +kernel
theorem dX2_meetConflict_12 : decode cX2_meetConflict 12 = .ok (.putfield 37, 3) := by decide +kernel
theorem dX2_meetConflict_15 : decode cX2_meetConflict 15 = .ok (.iconst 0, 1) := by decide +kernel
theorem dX2_meetConflict_16 : decode cX2_meetConflict 16 = .ok (.ireturn, 1) := by decide +kernel
theorem dX2_meetConflict_17 : decode cX2_meetConflict 17 = .ok (.aload_n 0, 1) := by decide +kernel
theorem dX2_meetConflict_18 : decode cX2_meetConflict 18 = .ok (.getfield 30, 3) := by decide +kernel
theorem dX2_meetConflict_21 : decode cX2_meetConflict 21 = .ok (.getfield 120, 3) := by decide +kernel
theorem dX2_meetConflict_24 : decode cX2_meetConflict 24 = .ok (.invokevirtual 187, 3) := by decide +kernel
theorem dX2_meetConflict_27 : decode cX2_meetConflict 27 = .ok (.ifCond .eq 5, 3) := by decide +kernel
theorem dX2_meetConflict_30 : decode cX2_meetConflict 30 = .ok (.iconst 3, 1) := by decide +kernel
theorem dX2_meetConflict_31 : decode cX2_meetConflict 31 = .ok (.ireturn, 1) := by decide +kernel
theorem dX2_meetConflict_32 : decode cX2_meetConflict 32 = .ok (.aload_n 0, 1) := by decide +kernel
theorem dX2_meetConflict_33 : decode cX2_meetConflict 33 = .ok (.dup, 1) := by decide +kernel
theorem dX2_meetConflict_34 : decode cX2_meetConflict 34 = .ok (.getfield 86, 3) := by decide +kernel
theorem dX2_meetConflict_37 : decode cX2_meetConflict 37 = .ok (.iconst 1, 1) := by decide +kernel
theorem dX2_meetConflict_38 : decode cX2_meetConflict 38 = .ok (.iadd, 1) := by decide +kernel
theorem dX2_meetConflict_39 : decode cX2_meetConflict 39 = .ok (.putfield 86, 3) := by decide +kernel
theorem dX2_meetConflict_42 : decode cX2_meetConflict 42 = .ok (.aload_n 0, 1) := by decide +kernel
theorem dX2_meetConflict_43 : decode cX2_meetConflict 43 = .ok (.dup, 1) := by decide +kernel
theorem dX2_meetConflict_44 : decode cX2_meetConflict 44 = .ok (.getfield 89, 3) := by decide +kernel
theorem dX2_meetConflict_47 : decode cX2_meetConflict 47 = .ok (.iconst 1, 1) := by decide +kernel
theorem dX2_meetConflict_48 : decode cX2_meetConflict 48 = .ok (.iadd, 1) := by decide +kernel
theorem dX2_meetConflict_49 : decode cX2_meetConflict 49 = .ok (.putfield 89, 3) := by decide +kernel
theorem dX2_meetConflict_52 : decode cX2_meetConflict 52 = .ok (.aload_n 0, 1) := by decide +kernel
theorem dX2_meetConflict_53 : decode cX2_meetConflict 53 = .ok (.getfield 30, 3) := by decide +kernel
theorem dX2_meetConflict_56 : decode cX2_meetConflict 56 = .ok (.dup, 1) := by decide +kernel
theorem dX2_meetConflict_57 : decode cX2_meetConflict 57 = .ok (.getfield 191, 3) := by decide +kernel
theorem dX2_meetConflict_60 : decode cX2_meetConflict 60 = .ok (.iconst 1, 1) := by decide +kernel
theorem dX2_meetConflict_61 : decode cX2_meetConflict 61 = .ok (.iadd, 1) := by decide +kernel
theorem dX2_meetConflict_62 : decode cX2_meetConflict 62 = .ok (.putfield 191, 3) := by decide +kernel
theorem dX2_meetConflict_65 : decode cX2_meetConflict 65 = .ok (.aload_n 0, 1) := by decide +kernel
theorem dX2_meetConflict_66 : decode cX2_meetConflict 66 = .ok (.invokevirtual 194, 3) := by decide +kernel
theorem dX2_meetConflict_69 : decode cX2_meetConflict 69 = .ok (.aload_n 0, 1) := by decide +kernel
theorem dX2_meetConflict_70 : decode cX2_meetConflict 70 = .ok (.invokevirtual 197, 3) := by decide +kernel
theorem dX2_meetConflict_73 : decode cX2_meetConflict 73 = .ok (.aload_n 0, 1) := by decide +kernel
theorem dX2_meetConflict_74 : decode cX2_meetConflict 74 = .ok (.invokevirtual 200, 3) := by decide +kernel
theorem dX2_meetConflict_77 : decode cX2_meetConflict 77 = .ok (.aload_n 0, 1) := by decide +kernel
theorem dX2_meetConflict_78 : decode cX2_meetConflict 78 = .ok (.invokevirtual 203, 3) := by decide +kernel
theorem dX2_meetConflict_81 : decode cX2_meetConflict 81 = .ok (.aload_n 0, 1) := by decide +kernel
theorem dX2_meetConflict_82 : decode cX2_meetConflict 82 = .ok (.invokevirtual 206, 3) := by decide +kernel
theorem dX2_meetConflict_85 : decode cX2_meetConflict 85 = .ok (.aload_n 0, 1) := by decide +kernel
theorem dX2_meetConflict_86 : decode cX2_meetConflict 86 = .ok (.getfield 86, 3) := by decide +kernel
theorem dX2_meetConflict_89 : decode cX2_meetConflict 89 = .ok (.iload_n 1, 1) := by decide +kernel
theorem dX2_meetConflict_90 : decode cX2_meetConflict 90 = .ok (.if_icmp .lt 7, 3) := by decide +kernel
theorem dX2_meetConflict_93 : decode cX2_meetConflict 93 = .ok (.iconst 2, 1) := by decide +kernel
theorem dX2_meetConflict_94 : decode cX2_meetConflict 94 = .ok (.goto 4, 3) := by decide +kernel
theorem dX2_meetConflict_97 : decode cX2_meetConflict 97 = .ok (.iconst (-1), 1) := by decide +kernel
theorem dX2_meetConflict_98 : decode cX2_meetConflict 98 = .ok (.ireturn, 1) := by decide +kernel
theorem dX2_resolve_0 : decode cX2_resolve 0 = .ok (.aload_n 0, 1) := by decide +kernel
theorem dX2_resolve_1 : decode cX2_resolve 1 = .ok (.aload_n 0, 1) := by decide +kernel
theorem dX2_resolve_2 : decode cX2_resolve 2 = .ok (.getfield 83, 3) := by decide +kernel
theorem dX2_resolve_5 : decode cX2_resolve 5 = .ok (.invokevirtual 209, 3) := by decide +kernel
theorem dX2_resolve_8 : decode cX2_resolve 8 = .ok (.istore_n 1, 1) := by decide +kernel
theorem dX2_resolve_9 : decode cX2_resolve 9 = .ok (.aload_n 0, 1) := by decide +kernel
theorem dX2_resolve_10 : decode cX2_resolve 10 = .ok (.aload_n 0, 1) := by decide +kernel
theorem dX2_resolve_11 : decode cX2_resolve 11 = .ok (.iconst 1, 1) := by decide +kernel
theorem dX2_resolve_12 : decode cX2_resolve 12 = .ok (.invokevirtual 209, 3) := by decide +kernel
theorem dX2_resolve_15 : decode cX2_resolve 15 = .ok (.putfield 212, 3) := by decide +kernel
theorem dX2_resolve_18 : decode cX2_resolve 18 = .ok (.aload_n 0, 1) := by decide +kernel
theorem dX2_resolve_19 : decode cX2_resolve 19 = .ok (.aload_n 0, 1) := by decide +kernel
theorem dX2_resolve_20 : decode cX2_resolve 20 = .ok (.getfield 30, 3) := by decide +kernel
theorem dX2_resolve_23 : decode cX2_resolve 23 = .ok (.getfield 120, 3) := by decide +kernel
theorem dX2_resolve_26 : decode cX2_resolve 26 = .ok (.aload_n 0, 1) := by decide +kernel
theorem dX2_resolve_27 : decode cX2_resolve 27 = .ok (.getfield 71, 3) := by decide +kernel
theorem dX2_resolve_30 : decode cX2_resolve 30 = .ok (.invokevirtual 139, 3) := by decide +kernel
theorem dX2_resolve_33 : decode cX2_resolve 33 = .ok (.aload_n 0, 1) := by decide +kernel
theorem dX2_resolve_34 : decode cX2_resolve 34 = .ok (.getfield 212, 3) := by decide +kernel
theorem dX2_resolve_37 : decode cX2_resolve 37 = .ok (.iand, 1) := by decide +kernel
theorem dX2_resolve_38 : decode cX2_resolve 38 = .ok (.putfield 215, 3) := by decide +kernel
theorem dX2_resolve_41 : decode cX2_resolve 41 = .ok (.aload_n 0, 1) := by decide +kernel
theorem dX2_resolve_42 : decode cX2_resolve 42 = .ok (.aload_n 0, 1) := by decide +kernel
theorem dX2_resolve_43 : decode cX2_resolve 43 = .ok (.getfield 215, 3) := by decide +kernel
theorem dX2_resolve_46 : decode cX2_resolve 46 = .ok (.putfield 218, 3) := by decide +kernel
theorem dX2_resolve_49 : decode cX2_resolve 49 = .ok (.aload_n 0, 1) := by decide +kernel
theorem dX2_resolve_50 : decode cX2_resolve 50 = .ok (.getfield 74, 3) := by decide +kernel
theorem dX2_resolve_53 : decode cX2_resolve 53 = .ok (.iconst 1, 1) := by decide +kernel
theorem dX2_resolve_54 : decode cX2_resolve 54 = .ok (.isub, 1) := by decide +kernel
theorem dX2_resolve_55 : decode cX2_resolve 55 = .ok (.istore_n 2, 1) := by decide +kernel
theorem dX2_resolve_56 : decode cX2_resolve 56 = .ok (.iload_n 2, 1) := by decide +kernel
theorem dX2_resolve_57 : decode cX2_resolve 57 = .ok (.ifCond .lt 116, 3) := by decide +kernel
theorem dX2_resolve_60 : decode cX2_resolve 60 = .ok (.aload_n 0, 1) := by decide +kernel
theorem dX2_resolve_61 : decode cX2_resolve 61 = .ok (.getfield 215, 3) := by decide +kernel
theorem dX2_resolve_64 : decode cX2_resolve 64 = .ok (.iload_n 1, 1) := by decide +kernel
theorem dX2_resolve_65 : decode cX2_resolve 65 = .ok (.iand, 1) := by decide +kernel
theorem dX2_resolve_66 : decode cX2_resolve 66 = .ok (.invokestatic 142, 3) := by decide +kernel
theorem dX2_resolve_69 : decode cX2_resolve 69 = .ok (.iconst 2, 1) := by decide +kernel
theorem dX2_resolve_70 : decode cX2_resolve 70 = .ok (.if_icmp .lt 103, 3) := by decide +kernel
theorem dX2_resolve_73 : decode cX2_resolve 73 = .ok (.aload_n 0, 1) := by decide +kernel
theorem dX2_resolve_74 : decode cX2_resolve 74 = .ok (.getfield 9, 3) := by decide +kernel
theorem dX2_resolve_77 : decode cX2_resolve 77 = .ok (.iload_n 2, 1) := by decide +kernel
theorem dX2_resolve_78 : decode cX2_resolve 78 = .ok (.iaload, 1) := by decide +kernel
theorem dX2_resolve_79 : decode cX2_resolve 79 = .ok (.invokestatic 147, 3) := by decide +kernel
theorem dX2_resolve_82 : decode cX2_resolve 82 = .ok (.istore_n 3, 1) := by decide +kernel
theorem dX2_resolve_83 : decode cX2_resolve 83 = .ok (.iload_n 3, 1) := by decide +kernel
theorem dX2_resolve_84 : decode cX2_resolve 84 = .ok (.invokestatic 150, 3) := by decide +kernel
theorem dX2_resolve_87 : decode cX2_resolve 87 = .ok (.istore 4, 2) := by decide +kernel
theorem dX2_resolve_89 : decode cX2_resolve 89 = .ok (.aload_n 0, 1) := by decide +kernel
theorem dX2_resolve_90 : decode cX2_resolve 90 = .ok (.getfield 215, 3) := by decide +kernel
theorem dX2_resolve_93 : decode cX2_resolve 93 = .ok (.iload 4, 2) := by decide +kernel
theorem dX2_resolve_95 : decode cX2_resolve 95 = .ok (.iand, 1) := by decide +kernel
theorem dX2_resolve_96 : decode cX2_resolve 96 = .ok (.ifCond .eq 71, 3) := by decide +kernel
theorem dX2_resolve_99 : decode cX2_resolve 99 = .ok (.aload_n 0, 1) := by decide +kernel
theorem dX2_resolve_100 : decode cX2_resolve 100 = .ok (.getfield 18, 3) := by decide +kernel
theorem dX2_resolve_103 : decode cX2_resolve 103 = .ok (.iload_n 3, 1) := by decide +kernel
theorem dX2_resolve_104 : decode cX2_resolve 104 = .ok (.iaload, 1) := by decide +kernel
theorem dX2_resolve_105 : decode cX2_resolve 105 = .ok (.iconst (-1), 1) := by decide +kernel
theorem dX2_resolve_106 : decode cX2_resolve 106 = .ok (.if_icmp .ne 6, 3) := by decide +kernel
theorem dX2_resolve_109 : decode cX2_resolve 109 = .ok (.goto 58, 3) := by decide +kernel
theorem dX2_resolve_112 : decode cX2_resolve 112 = .ok (.aload_n 0, 1) := by decide +kernel
theorem dX2_resolve_113 : decode cX2_resolve 113 = .ok (.getfield 30, 3) := by decide +kernel
theorem dX2_resolve_116 : decode cX2_resolve 116 = .ok (.getfield 120, 3) := by decide +kernel
theorem dX2_resolve_119 : decode cX2_resolve 119 = .ok (.aload_n 0, 1) := by decide +kernel
theorem dX2_resolve_120 : decode cX2_resolve 120 = .ok (.getfield 18, 3) := by decide +kernel
theorem dX2_resolve_123 : decode cX2_resolve 123 = .ok (.iload_n 3, 1) := by decide +kernel
theorem dX2_resolve_124 : decode cX2_resolve 124 = .ok (.iaload, 1) := by decide +kernel
theorem dX2_resolve_125 : decode cX2_resolve 125 = .ok (.invokevirtual 139, 3) := by decide +kernel
theorem dX2_resolve_128 : decode cX2_resolve 128 = .ok (.aload_n 0, 1) := by decide +kernel
theorem dX2_resolve_129 : decode cX2_resolve 129 = .ok (.getfield 212, 3) := by decide +kernel
theorem dX2_resolve_132 : decode cX2_resolve 132 = .ok (.iand, 1) := by decide +kernel
theorem dX2_resolve_133 : decode cX2_resolve 133 = .ok (.iload 4, 2) := by decide +kernel
theorem dX2_resolve_135 : decode cX2_resolve 135 = .ok (.iconst (-1), 1) := by decide +kernel
theorem dX2_resolve_136 : decode cX2_resolve 136 = .ok (.ixor, 1) := by decide +kernel
theorem dX2_resolve_137 : decode cX2_resolve 137 = .ok (.iand, 1) := by decide +kernel
theorem dX2_resolve_138 : decode cX2_resolve 138 = .ok (.istore 5, 2) := by decide +kernel
theorem dX2_resolve_140 : decode cX2_resolve 140 = .ok (.aload_n 0, 1) := by decide +kernel
theorem dX2_resolve_141 : decode cX2_resolve 141 = .ok (.aload_n 0, 1) := by decide +kernel
theorem dX2_resolve_142 : decode cX2_resolve 142 = .ok (.getfield 215, 3) := by decide +kernel
theorem dX2_resolve_145 : decode cX2_resolve 145 = .ok (.iload 4, 2) := by decide +kernel
theorem dX2_resolve_147 : decode cX2_resolve 147 = .ok (.iconst (-1), 1) := by decide +kernel
theorem dX2_resolve_148 : decode cX2_resolve 148 = .ok (.ixor, 1) := by decide +kernel
theorem dX2_resolve_149 : decode cX2_resolve 149 = .ok (.iand, 1) := by decide +kernel
theorem dX2_resolve_150 : decode cX2_resolve 150 = .ok (.iload 5, 2) := by decide +kernel
theorem dX2_resolve_152 : decode cX2_resolve 152 = .ok (.ior, 1) := by decide +kernel
theorem dX2_resolve_153 : decode cX2_resolve 153 = .ok (.putfield 215, 3) := by decide +kernel
theorem dX2_resolve_156 : decode cX2_resolve 156 = .ok (.aload_n 0, 1) := by decide +kernel
theorem dX2_resolve_157 : decode cX2_resolve 157 = .ok (.dup, 1) := by decide +kernel
theorem dX2_resolve_158 : decode cX2_resolve 158 = .ok (.getfield 218, 3) := by decide +kernel
theorem dX2_resolve_161 : decode cX2_resolve 161 = .ok (.iload 5, 2) := by decide +kernel
theorem dX2_resolve_163 : decode cX2_resolve 163 = .ok (.ior, 1) := by decide +kernel
theorem dX2_resolve_164 : decode cX2_resolve 164 = .ok (.putfield 218, 3) := by decide +kernel
theorem dX2_resolve_167 : decode cX2_resolve 167 = .ok (.iinc 2 (-1), 3) := by decide +kernel
theorem dX2_resolve_170 : decode cX2_resolve 170 = .ok (.goto (-114), 3) := by decide +kernel
theorem dX2_resolve_173 : decode cX2_resolve 173 = .ok (.return_, 1) := by decide +kernel
theorem dX2_variablesFrom_0 : decode cX2_variablesFrom 0 = .ok (.iconst 0, 1) := by decide +kernel
theorem dX2_variablesFrom_1 : decode cX2_variablesFrom 1 = .ok (.istore_n 2, 1) := by decide +kernel
theorem dX2_variablesFrom_2 : decode cX2_variablesFrom 2 = .ok (.iconst 0, 1) := by decide +kernel
theorem dX2_variablesFrom_3 : decode cX2_variablesFrom 3 = .ok (.istore_n 3, 1) := by decide +kernel
theorem dX2_variablesFrom_4 : decode cX2_variablesFrom 4 = .ok (.iload_n 3, 1) := by decide +kernel
theorem dX2_variablesFrom_5 : decode cX2_variablesFrom 5 = .ok (.aload_n 0, 1) := by decide +kernel
theorem dX2_variablesFrom_6 : decode cX2_variablesFrom 6 = .ok (.getfield 74, 3) := by decide +kernel
theorem dX2_variablesFrom_9 : decode cX2_variablesFrom 9 = .ok (.if_icmp .ge 39, 3) := by decide +kernel
theorem dX2_variablesFrom_12 : decode cX2_variablesFrom 12 = .ok (.aload_n 0, 1) := by decide +kernel
theorem dX2_variablesFrom_13 : decode cX2_variablesFrom 13 = .ok (.getfield 9, 3) := by decide +kernel
theorem dX2_variablesFrom_16 : decode cX2_variablesFrom 16 = .ok (.iload_n 3, 1) := by decide +kernel
theorem dX2_variablesFrom_17 : decode cX2_variablesFrom 17 = .ok (.iaload, 1) := by decide +kernel
theorem dX2_variablesFrom_18 : decode cX2_variablesFrom 18 = .ok (.invokestatic 147, 3) := by decide +kernel
theorem dX2_variablesFrom_21 : decode cX2_variablesFrom 21 = .ok (.istore 4, 2) := by decide +kernel
theorem dX2_variablesFrom_23 : decode cX2_variablesFrom 23 = .ok (.aload_n 0, 1) := by decide +kernel
theorem dX2_variablesFrom_24 : decode cX2_variablesFrom 24 = .ok (.getfield 15, 3) := by decide +kernel
theorem dX2_variablesFrom_27 : decode cX2_variablesFrom 27 = .ok (.iload 4, 2) := by decide +kernel
theorem dX2_variablesFrom_29 : decode cX2_variablesFrom 29 = .ok (.iaload, 1) := by decide +kernel
theorem dX2_variablesFrom_30 : decode cX2_variablesFrom 30 = .ok (.iload_n 1, 1) := by decide +kernel
theorem dX2_variablesFrom_31 : decode cX2_variablesFrom 31 = .ok (.if_icmp .lt 11, 3) := by decide +kernel
theorem dX2_variablesFrom_34 : decode cX2_variablesFrom 34 = .ok (.iload_n 2, 1) := by decide +kernel
theorem dX2_variablesFrom_35 : decode cX2_variablesFrom 35 = .ok (.iload 4, 2) := by decide +kernel
theorem dX2_variablesFrom_37 : decode cX2_variablesFrom 37 = .ok (.invokestatic 150, 3) := by decide +kernel
theorem dX2_variablesFrom_40 : decode cX2_variablesFrom 40 = .ok (.ior, 1) := by decide +kernel
theorem dX2_variablesFrom_41 : decode cX2_variablesFrom 41 = .ok (.istore_n 2, 1) := by decide +kernel
theorem dX2_variablesFrom_42 : decode cX2_variablesFrom 42 = .ok (.iinc 3 1, 3) := by decide +kernel
theorem dX2_variablesFrom_45 : decode cX2_variablesFrom 45 = .ok (.goto (-41), 3) := by decide +kernel
theorem dX2_variablesFrom_48 : decode cX2_variablesFrom 48 = .ok (.iload_n 2, 1) := by decide +kernel
theorem dX2_variablesFrom_49 : decode cX2_variablesFrom 49 = .ok (.ireturn, 1) := by decide +kernel
theorem dX2_orderAndTrim_0 : decode cX2_orderAndTrim 0 = .ok (.aload_n 0, 1) := by decide +kernel
theorem dX2_orderAndTrim_1 : decode cX2_orderAndTrim 1 = .ok (.getfield 26, 3) := by decide +kernel
theorem dX2_orderAndTrim_4 : decode cX2_orderAndTrim 4 = .ok (.invokevirtual 221, 3) := by decide +kernel
theorem dX2_orderAndTrim_7 : decode cX2_orderAndTrim 7 = .ok (.aload_n 0, 1) := by decide +kernel
theorem dX2_orderAndTrim_8 : decode cX2_orderAndTrim 8 = .ok (.getfield 83, 3) := by decide +kernel
theorem dX2_orderAndTrim_11 : decode cX2_orderAndTrim 11 = .ok (.istore_n 1, 1) := by decide +kernel
theorem dX2_orderAndTrim_12 : decode cX2_orderAndTrim 12 = .ok (.iload_n 1, 1) := by decide +kernel
theorem dX2_orderAndTrim_13 : decode cX2_orderAndTrim 13 = .ok (.iconst 1, 1) := by decide +kernel
theorem dX2_orderAndTrim_14 : decode cX2_orderAndTrim 14 = .ok (.if_icmp .lt 94, 3) := by decide +kernel
theorem dX2_orderAndTrim_17 : decode cX2_orderAndTrim 17 = .ok (.iconst 1, 1) := by decide +kernel
theorem dX2_orderAndTrim_18 : decode cX2_orderAndTrim 18 = .ok (.istore_n 2, 1) := by decide +kernel
theorem dX2_orderAndTrim_19 : decode cX2_orderAndTrim 19 = .ok (.iload_n 2, 1) := by decide +kernel
theorem dX2_orderAndTrim_20 : decode cX2_orderAndTrim 20 = .ok (.aload_n 0, 1) := by decide +kernel
theorem dX2_orderAndTrim_21 : decode cX2_orderAndTrim 21 = .ok (.getfield 30, 3) := by decide +kernel
theorem dX2_orderAndTrim_24 : decode cX2_orderAndTrim 24 = .ok (.getfield 108, 3) := by decide +kernel
theorem dX2_orderAndTrim_27 : decode cX2_orderAndTrim 27 = .ok (.if_icmp .gt 75, 3) := by decide +kernel
theorem dX2_orderAndTrim_30 : decode cX2_orderAndTrim 30 = .ok (.aload_n 0, 1) := by decide +kernel
theorem dX2_orderAndTrim_31 : decode cX2_orderAndTrim 31 = .ok (.getfield 215, 3) := by decide +kernel
theorem dX2_orderAndTrim_34 : decode cX2_orderAndTrim 34 = .ok (.iload_n 2, 1) := by decide +kernel
theorem dX2_orderAndTrim_35 : decode cX2_orderAndTrim 35 = .ok (.invokestatic 150, 3) := by decide +kernel
theorem dX2_orderAndTrim_38 : decode cX2_orderAndTrim 38 = .ok (.iand, 1) := by decide +kernel
theorem dX2_orderAndTrim_39 : decode cX2_orderAndTrim 39 = .ok (.ifCond .eq 57, 3) := by decide +kernel
theorem dX2_orderAndTrim_42 : decode cX2_orderAndTrim 42 = .ok (.aload_n 0, 1) := by decide +kernel
theorem dX2_orderAndTrim_43 : decode cX2_orderAndTrim 43 = .ok (.getfield 15, 3) := by decide +kernel
theorem dX2_orderAndTrim_46 : decode cX2_orderAndTrim 46 = .ok (.iload_n 2, 1) := by decide +kernel
theorem dX2_orderAndTrim_47 : decode cX2_orderAndTrim 47 = .ok (.iaload, 1) := by decide +kernel
theorem dX2_orderAndTrim_48 : decode cX2_orderAndTrim 48 = .ok (.iload_n 1, 1) := by decide +kernel
theorem dX2_orderAndTrim_49 : decode cX2_orderAndTrim 49 = .ok (.if_icmp .eq 6, 3) := by decide +kernel
theorem dX2_orderAndTrim_52 : decode cX2_orderAndTrim 52 = .ok (.goto 44, 3) := by decide +kernel
theorem dX2_orderAndTrim_55 : decode cX2_orderAndTrim 55 = .ok (.iload_n 1, 1) := by decide +kernel
theorem dX2_orderAndTrim_56 : decode cX2_orderAndTrim 56 = .ok (.aload_n 0, 1) := by decide +kernel
theorem dX2_orderAndTrim_57 : decode cX2_orderAndTrim 57 = .ok (.getfield 83, 3) := by decide +kernel
theorem dX2_orderAndTrim_60 : decode cX2_orderAndTrim 60 = .ok (.if_icmp .eq 11, 3) := by decide +kernel
theorem dX2_orderAndTrim_63 : decode cX2_orderAndTrim 63 = .ok (.aload_n 0, 1) := by decide +kernel
theorem dX2_orderAndTrim_64 : decode cX2_orderAndTrim 64 = .ok (.iload_n 2, 1) := by decide +kernel
theorem dX2_orderAndTrim_65 : decode cX2_orderAndTrim 65 = .ok (.invokevirtual 224, 3) := by decide +kernel
theorem dX2_orderAndTrim_68 : decode cX2_orderAndTrim 68 = .ok (.ifCond .ne 28, 3) := by decide +kernel
theorem dX2_orderAndTrim_71 : decode cX2_orderAndTrim 71 = .ok (.aload_n 0, 1) := by decide +kernel
theorem dX2_orderAndTrim_72 : decode cX2_orderAndTrim 72 = .ok (.getfield 26, 3) := by decide +kernel
theorem dX2_orderAndTrim_75 : decode cX2_orderAndTrim 75 = .ok (.aload_n 0, 1) := by decide +kernel
theorem dX2_orderAndTrim_76 : decode cX2_orderAndTrim 76 = .ok (.getfield 77, 3) := by decide +kernel
theorem dX2_orderAndTrim_79 : decode cX2_orderAndTrim 79 = .ok (.iload_n 2, 1) := by decide +kernel
theorem dX2_orderAndTrim_80 : decode cX2_orderAndTrim 80 = .ok (.invokestatic 150, 3) := by decide +kernel
theorem dX2_orderAndTrim_83 : decode cX2_orderAndTrim 83 = .ok (.iand, 1) := by decide +kernel
theorem dX2_orderAndTrim_84 : decode cX2_orderAndTrim 84 = .ok (.ifCond .eq 8, 3) := by decide +kernel
theorem dX2_orderAndTrim_87 : decode cX2_orderAndTrim 87 = .ok (.iload_n 2, 1) := by decide +kernel
theorem dX2_orderAndTrim_88 : decode cX2_orderAndTrim 88 = .ok (.ineg, 1) := by decide +kernel
theorem dX2_orderAndTrim_89 : decode cX2_orderAndTrim 89 = .ok (.goto 4, 3) := by decide +kernel
theorem dX2_orderAndTrim_92 : decode cX2_orderAndTrim 92 = .ok (.iload_n 2, 1) := by decide +kernel
theorem dX2_orderAndTrim_93 : decode cX2_orderAndTrim 93 = .ok (.invokevirtual 227, 3) := by decide +kernel
theorem dX2_orderAndTrim_96 : decode cX2_orderAndTrim 96 = .ok (.iinc 2 1, 3) := by decide +kernel
theorem dX2_orderAndTrim_99 : decode cX2_orderAndTrim 99 = .ok (.goto (-80), 3) := by decide +kernel
theorem dX2_orderAndTrim_102 : decode cX2_orderAndTrim 102 = .ok (.iinc 1 (-1), 3) := by decide +kernel
theorem dX2_orderAndTrim_105 : decode cX2_orderAndTrim 105 = .ok (.goto (-93), 3) := by decide +kernel
theorem dX2_orderAndTrim_108 : decode cX2_orderAndTrim 108 = .ok (.return_, 1) := by decide +kernel
theorem dX2_isImplied_0 : decode cX2_isImplied 0 = .ok (.aload_n 0, 1) := by decide +kernel
theorem dX2_isImplied_1 : decode cX2_isImplied 1 = .ok (.getfield 18, 3) := by decide +kernel
theorem dX2_isImplied_4 : decode cX2_isImplied 4 = .ok (.iload_n 1, 1) := by decide +kernel
theorem dX2_isImplied_5 : decode cX2_isImplied 5 = .ok (.iaload, 1) := by decide +kernel
theorem dX2_isImplied_6 : decode cX2_isImplied 6 = .ok (.iconst (-1), 1) := by decide +kernel
theorem dX2_isImplied_7 : decode cX2_isImplied 7 = .ok (.if_icmp .ne 5, 3) := by decide +kernel
theorem dX2_isImplied_10 : decode cX2_isImplied 10 = .ok (.iconst 0, 1) := by decide +kernel
theorem dX2_isImplied_11 : decode cX2_isImplied 11 = .ok (.ireturn, 1) := by decide +kernel
theorem dX2_isImplied_12 : decode cX2_isImplied 12 = .ok (.aload_n 0, 1) := by decide +kernel
theorem dX2_isImplied_13 : decode cX2_isImplied 13 = .ok (.getfield 30, 3) := by decide +kernel
theorem dX2_isImplied_16 : decode cX2_isImplied 16 = .ok (.getfield 120, 3) := by decide +kernel
theorem dX2_isImplied_19 : decode cX2_isImplied 19 = .ok (.aload_n 0, 1) := by decide +kernel
theorem dX2_isImplied_20 : decode cX2_isImplied 20 = .ok (.getfield 18, 3) := by decide +kernel
theorem dX2_isImplied_23 : decode cX2_isImplied 23 = .ok (.iload_n 1, 1) := by decide +kernel
theorem dX2_isImplied_24 : decode cX2_isImplied 24 = .ok (.iaload, 1) := by decide +kernel
theorem dX2_isImplied_25 : decode cX2_isImplied 25 = .ok (.invokevirtual 139, 3) := by decide +kernel
theorem dX2_isImplied_28 : decode cX2_isImplied 28 = .ok (.iload_n 1, 1) := by decide +kernel
theorem dX2_isImplied_29 : decode cX2_isImplied 29 = .ok (.invokestatic 150, 3) := by decide +kernel
theorem dX2_isImplied_32 : decode cX2_isImplied 32 = .ok (.iconst (-1), 1) := by decide +kernel
theorem dX2_isImplied_33 : decode cX2_isImplied 33 = .ok (.ixor, 1) := by decide +kernel
theorem dX2_isImplied_34 : decode cX2_isImplied 34 = .ok (.iand, 1) := by decide +kernel
theorem dX2_isImplied_35 : decode cX2_isImplied 35 = .ok (.istore_n 2, 1) := by decide +kernel
theorem dX2_isImplied_36 : decode cX2_isImplied 36 = .ok (.iload_n 2, 1) := by decide +kernel
theorem dX2_isImplied_37 : decode cX2_isImplied 37 = .ok (.aload_n 0, 1) := by decide +kernel
theorem dX2_isImplied_38 : decode cX2_isImplied 38 = .ok (.getfield 212, 3) := by decide +kernel
theorem dX2_isImplied_41 : decode cX2_isImplied 41 = .ok (.iand, 1) := by decide +kernel
theorem dX2_isImplied_42 : decode cX2_isImplied 42 = .ok (.aload_n 0, 1) := by decide +kernel
theorem dX2_isImplied_43 : decode cX2_isImplied 43 = .ok (.getfield 215, 3) := by decide +kernel
theorem dX2_isImplied_46 : decode cX2_isImplied 46 = .ok (.iconst (-1), 1) := by decide +kernel
theorem dX2_isImplied_47 : decode cX2_isImplied 47 = .ok (.ixor, 1) := by decide +kernel
theorem dX2_isImplied_48 : decode cX2_isImplied 48 = .ok (.iand, 1) := by decide +kernel
theorem dX2_isImplied_49 : decode cX2_isImplied 49 = .ok (.ifCond .ne 7, 3) := by decide +kernel
theorem dX2_isImplied_52 : decode cX2_isImplied 52 = .ok (.iconst 1, 1) := by decide +kernel
theorem dX2_isImplied_53 : decode cX2_isImplied 53 = .ok (.goto 4, 3) := by decide +kernel
theorem dX2_isImplied_56 : decode cX2_isImplied 56 = .ok (.iconst 0, 1) := by decide +kernel
theorem dX2_isImplied_57 : decode cX2_isImplied 57 = .ok (.ireturn, 1) := by decide +kernel
theorem dX2_raiseScores_0 : decode cX2_raiseScores 0 = .ok (.iconst 1, 1) := by decide +kernel
theorem dX2_raiseScores_1 : decode cX2_raiseScores 1 = .ok (.istore_n 1, 1) := by decide +kernel
theorem dX2_raiseScores_2 : decode cX2_raiseScores 2 = .ok (.iload_n 1, 1) := by decide +kernel
theorem dX2_raiseScores_3 : decode cX2_raiseScores 3 = .ok (.aload_n 0, 1) := by decide +kernel
theorem dX2_raiseScores_4 : decode cX2_raiseScores 4 = .ok (.getfield 30, 3) := by decide +kernel
theorem dX2_raiseScores_7 : decode cX2_raiseScores 7 = .ok (.getfield 108, 3) := by decide +kernel
theorem dX2_raiseScores_10 : decode cX2_raiseScores 10 = .ok (.if_icmp .gt 53, 3) := by decide +kernel
theorem dX2_raiseScores_13 : decode cX2_raiseScores 13 = .ok (.aload_n 0, 1) := by decide +kernel
theorem dX2_raiseScores_14 : decode cX2_raiseScores 14 = .ok (.getfield 30, 3) := by decide +kernel
theorem dX2_raiseScores_17 : decode cX2_raiseScores 17 = .ok (.getfield 177, 3) := by decide +kernel
theorem dX2_raiseScores_20 : decode cX2_raiseScores 20 = .ok (.iload_n 1, 1) := by decide +kernel
theorem dX2_raiseScores_21 : decode cX2_raiseScores 21 = .ok (.iaload, 1) := by decide +kernel
theorem dX2_raiseScores_22 : decode cX2_raiseScores 22 = .ok (.aload_n 0, 1) := by decide +kernel
theorem dX2_raiseScores_23 : decode cX2_raiseScores 23 = .ok (.getfield 218, 3) := by decide +kernel
theorem dX2_raiseScores_26 : decode cX2_raiseScores 26 = .ok (.iload_n 1, 1) := by decide +kernel
theorem dX2_raiseScores_27 : decode cX2_raiseScores 27 = .ok (.invokestatic 150, 3) := by decide +kernel
theorem dX2_raiseScores_30 : decode cX2_raiseScores 30 = .ok (.iand, 1) := by decide +kernel
theorem dX2_raiseScores_31 : decode cX2_raiseScores 31 = .ok (.ifCond .eq 8, 3) := by decide +kernel
theorem dX2_raiseScores_34 : decode cX2_raiseScores 34 = .ok (.bipush 16, 2) := by decide +kernel
theorem dX2_raiseScores_36 : decode cX2_raiseScores 36 = .ok (.goto 4, 3) := by decide +kernel
theorem dX2_raiseScores_39 : decode cX2_raiseScores 39 = .ok (.iconst 0, 1) := by decide +kernel
theorem dX2_raiseScores_40 : decode cX2_raiseScores 40 = .ok (.iadd, 1) := by decide +kernel
theorem dX2_raiseScores_41 : decode cX2_raiseScores 41 = .ok (.istore_n 2, 1) := by decide +kernel
theorem dX2_raiseScores_42 : decode cX2_raiseScores 42 = .ok (.aload_n 0, 1) := by decide +kernel
theorem dX2_raiseScores_43 : decode cX2_raiseScores 43 = .ok (.getfield 30, 3) := by decide +kernel
theorem dX2_raiseScores_46 : decode cX2_raiseScores 46 = .ok (.getfield 177, 3) := by decide +kernel
theorem dX2_raiseScores_49 : decode cX2_raiseScores 49 = .ok (.iload_n 1, 1) := by decide +kernel
theorem dX2_raiseScores_50 : decode cX2_raiseScores 50 = .ok (.iload_n 2, 1) := by decide +kernel
theorem dX2_raiseScores_51 : decode cX2_raiseScores 51 = .ok (.iload_n 2, 1) := by decide +kernel
theorem dX2_raiseScores_52 : decode cX2_raiseScores 52 = .ok (.bipush 8, 2) := by decide +kernel
theorem dX2_raiseScores_54 : decode cX2_raiseScores 54 = .ok (.idiv, 1) := by decide +kernel
theorem dX2_raiseScores_55 : decode cX2_raiseScores 55 = .ok (.isub, 1) := by decide +kernel
theorem dX2_raiseScores_56 : decode cX2_raiseScores 56 = .ok (.iastore, 1) := by decide +kernel
theorem dX2_raiseScores_57 : decode cX2_raiseScores 57 = .ok (.iinc 1 1, 3) := by decide +kernel
theorem dX2_raiseScores_60 : decode cX2_raiseScores 60 = .ok (.goto (-58), 3) := by decide +kernel
theorem dX2_raiseScores_63 : decode cX2_raiseScores 63 = .ok (.return_, 1) := by decide +kernel
theorem dX2_leap_0 : decode cX2_leap 0 = .ok (.aload_n 0, 1) := by decide +kernel
theorem dX2_leap_1 : decode cX2_leap 1 = .ok (.getfield 26, 3) := by decide +kernel
theorem dX2_leap_4 : decode cX2_leap 4 = .ok (.getfield 165, 3) := by decide +kernel
theorem dX2_leap_7 : decode cX2_leap 7 = .ok (.iconst 1, 1) := by decide +kernel
theorem dX2_leap_8 : decode cX2_leap 8 = .ok (.if_icmp .le 23, 3) := by decide +kernel
theorem dX2_leap_11 : decode cX2_leap 11 = .ok (.aload_n 0, 1) := by decide +kernel
theorem dX2_leap_12 : decode cX2_leap 12 = .ok (.getfield 15, 3) := by decide +kernel
theorem dX2_leap_15 : decode cX2_leap 15 = .ok (.aload_n 0, 1) := by decide +kernel
theorem dX2_leap_16 : decode cX2_leap 16 = .ok (.getfield 26, 3) := by decide +kernel
theorem dX2_leap_19 : decode cX2_leap 19 = .ok (.getfield 168, 3) := by decide +kernel
theorem dX2_leap_22 : decode cX2_leap 22 = .ok (.iconst 1, 1) := by decide +kernel
theorem dX2_leap_23 : decode cX2_leap 23 = .ok (.iaload, 1) := by decide +kernel
theorem dX2_leap_24 : decode cX2_leap 24 = .ok (.invokestatic 147, 3) := by decide +kernel
theorem dX2_leap_27 : decode cX2_leap 27 = .ok (.iaload, 1) := by decide +kernel
theorem dX2_leap_28 : decode cX2_leap 28 = .ok (.goto 4, 3) := by decide +kernel
theorem dX2_leap_31 : decode cX2_leap 31 = .ok (.iconst 0, 1) := by decide +kernel
theorem dX2_leap_32 : decode cX2_leap 32 = .ok (.istore_n 1, 1) := by decide +kernel
theorem dX2_leap_33 : decode cX2_leap 33 = .ok (.aload_n 0, 1) := by decide +kernel
theorem dX2_leap_34 : decode cX2_leap 34 = .ok (.iload_n 1, 1) := by decide +kernel
theorem dX2_leap_35 : decode cX2_leap 35 = .ok (.invokevirtual 52, 3) := by decide +kernel
theorem dX2_leap_38 : decode cX2_leap 38 = .ok (.aload_n 0, 1) := by decide +kernel
theorem dX2_leap_39 : decode cX2_leap 39 = .ok (.getfield 30, 3) := by decide +kernel
theorem dX2_leap_42 : decode cX2_leap 42 = .ok (.getfield 120, 3) := by decide +kernel
theorem dX2_leap_45 : decode cX2_leap 45 = .ok (.aload_n 0, 1) := by decide +kernel
theorem dX2_leap_46 : decode cX2_leap 46 = .ok (.getfield 26, 3) := by decide +kernel
theorem dX2_leap_49 : decode cX2_leap 49 = .ok (.iconst 1, 1) := by decide +kernel
theorem dX2_leap_50 : decode cX2_leap 50 = .ok (.invokevirtual 229, 3) := by decide +kernel
theorem dX2_leap_53 : decode cX2_leap 53 = .ok (.istore_n 2, 1) := by decide +kernel
theorem dX2_leap_54 : decode cX2_leap 54 = .ok (.aload_n 0, 1) := by decide +kernel
theorem dX2_leap_55 : decode cX2_leap 55 = .ok (.aload_n 0, 1) := by decide +kernel
theorem dX2_leap_56 : decode cX2_leap 56 = .ok (.getfield 26, 3) := by decide +kernel
theorem dX2_leap_59 : decode cX2_leap 59 = .ok (.getfield 168, 3) := by decide +kernel
theorem dX2_leap_62 : decode cX2_leap 62 = .ok (.iconst 0, 1) := by decide +kernel
theorem dX2_leap_63 : decode cX2_leap 63 = .ok (.iaload, 1) := by decide +kernel
theorem dX2_leap_64 : decode cX2_leap 64 = .ok (.iload_n 2, 1) := by decide +kernel
theorem dX2_leap_65 : decode cX2_leap 65 = .ok (.invokevirtual 67, 3) := by decide +kernel
theorem dX2_leap_68 : decode cX2_leap 68 = .ok (.return_, 1) := by decide +kernel
theorem dX2_startAnewIfDue_0 : decode cX2_startAnewIfDue 0 = .ok (.aload_n 0, 1) := by decide +kernel
theorem dX2_startAnewIfDue_1 : decode cX2_startAnewIfDue 1 = .ok (.getfield 30, 3) := by decide +kernel
theorem dX2_startAnewIfDue_4 : decode cX2_startAnewIfDue 4 = .ok (.getfield 233, 3) := by decide +kernel
theorem dX2_startAnewIfDue_7 : decode cX2_startAnewIfDue 7 = .ok (.ifCond .eq 27, 3) := by decide +kernel
theorem dX2_startAnewIfDue_10 : decode cX2_startAnewIfDue 10 = .ok (.aload_n 0, 1) := by decide +kernel
theorem dX2_startAnewIfDue_11 : decode cX2_startAnewIfDue 11 = .ok (.getfield 89, 3) := by decide +kernel
theorem dX2_startAnewIfDue_14 : decode cX2_startAnewIfDue 14 = .ok (.aload_n 0, 1) := by decide +kernel
theorem dX2_startAnewIfDue_15 : decode cX2_startAnewIfDue 15 = .ok (.getfield 30, 3) := by decide +kernel
theorem dX2_startAnewIfDue_18 : decode cX2_startAnewIfDue 18 = .ok (.getfield 233, 3) := by decide +kernel
theorem dX2_startAnewIfDue_21 : decode cX2_startAnewIfDue 21 = .ok (.aload_n 0, 1) := by decide +kernel
theorem dX2_startAnewIfDue_22 : decode cX2_startAnewIfDue 22 = .ok (.getfield 92, 3) := by decide +kernel
theorem dX2_startAnewIfDue_25 : decode cX2_startAnewIfDue 25 = .ok (.iconst 1, 1) := by decide +kernel
theorem dX2_startAnewIfDue_26 : decode cX2_startAnewIfDue 26 = .ok (.iadd, 1) := by decide +kernel
theorem dX2_startAnewIfDue_27 : decode cX2_startAnewIfDue 27 = .ok (.invokestatic 236, 3) := by decide +kernel
theorem dX2_startAnewIfDue_30 : decode cX2_startAnewIfDue 30 = .ok (.imul, 1) := by decide +kernel
theorem dX2_startAnewIfDue_31 : decode cX2_startAnewIfDue 31 = .ok (.if_icmp .ge 4, 3) := by decide +kernel
theorem dX2_startAnewIfDue_34 : decode cX2_startAnewIfDue 34 = .ok (.return_, 1) := by decide +kernel
theorem dX2_startAnewIfDue_35 : decode cX2_startAnewIfDue 35 = .ok (.aload_n 0, 1) := by decide +kernel
theorem dX2_startAnewIfDue_36 : decode cX2_startAnewIfDue 36 = .ok (.getfield 30, 3) := by decide +kernel
theorem dX2_startAnewIfDue_39 : decode cX2_startAnewIfDue 39 = .ok (.dup, 1) := by decide +kernel
theorem dX2_startAnewIfDue_40 : decode cX2_startAnewIfDue 40 = .ok (.getfield 239, 3) := by decide +kernel
theorem dX2_startAnewIfDue_43 : decode cX2_startAnewIfDue 43 = .ok (.iconst 1, 1) := by decide +kernel
theorem dX2_startAnewIfDue_44 : decode cX2_startAnewIfDue 44 = .ok (.iadd, 1) := by decide +kernel
theorem dX2_startAnewIfDue_45 : decode cX2_startAnewIfDue 45 = .ok (.putfield 239, 3) := by decide +kernel
theorem dX2_startAnewIfDue_48 : decode cX2_startAnewIfDue 48 = .ok (.aload_n 0, 1) := by decide +kernel
theorem dX2_startAnewIfDue_49 : decode cX2_startAnewIfDue 49 = .ok (.dup, 1) := by decide +kernel
theorem dX2_startAnewIfDue_50 : decode cX2_startAnewIfDue 50 = .ok (.getfield 92, 3) := by decide +kernel
theorem dX2_startAnewIfDue_53 : decode cX2_startAnewIfDue 53 = .ok (.iconst 1, 1) := by decide +kernel
theorem dX2_startAnewIfDue_54 : decode cX2_startAnewIfDue 54 = .ok (.iadd, 1) := by decide +kernel
theorem dX2_startAnewIfDue_55 : decode cX2_startAnewIfDue 55 = .ok (.putfield 92, 3) := by decide +kernel
theorem dX2_startAnewIfDue_58 : decode cX2_startAnewIfDue 58 = .ok (.aload_n 0, 1) := by decide +kernel
theorem dX2_startAnewIfDue_59 : decode cX2_startAnewIfDue 59 = .ok (.iconst 0, 1) := by decide +kernel
theorem dX2_startAnewIfDue_60 : decode cX2_startAnewIfDue 60 = .ok (.putfield 89, 3) := by decide +kernel
theorem dX2_startAnewIfDue_63 : decode cX2_startAnewIfDue 63 = .ok (.aload_n 0, 1) := by decide +kernel
theorem dX2_startAnewIfDue_64 : decode cX2_startAnewIfDue 64 = .ok (.iconst 0, 1) := by decide +kernel
theorem dX2_startAnewIfDue_65 : decode cX2_startAnewIfDue 65 = .ok (.invokevirtual 52, 3) := by decide +kernel
theorem dX2_startAnewIfDue_68 : decode cX2_startAnewIfDue 68 = .ok (.return_, 1) := by decide +kernel
theorem dX2_luby_0 : decode cX2_luby 0 = .ok (.iload_n 0, 1) := by decide +kernel
theorem dX2_luby_1 : decode cX2_luby 1 = .ok (.istore_n 1, 1) := by decide +kernel
theorem dX2_luby_2 : decode cX2_luby 2 = .ok (.iconst 0, 1) := by decide +kernel
theorem dX2_luby_3 : decode cX2_luby 3 = .ok (.istore_n 2, 1) := by decide +kernel
theorem dX2_luby_4 : decode cX2_luby 4 = .ok (.iload_n 2, 1) := by decide +kernel
theorem dX2_luby_5 : decode cX2_luby 5 = .ok (.bipush 32, 2) := by decide +kernel
theorem dX2_luby_7 : decode cX2_luby 7 = .ok (.if_icmp .ge 57, 3) := by decide +kernel
theorem dX2_luby_10 : decode cX2_luby 10 = .ok (.iconst 1, 1) := by decide +kernel
theorem dX2_luby_11 : decode cX2_luby 11 = .ok (.istore_n 3, 1) := by decide +kernel
theorem dX2_luby_12 : decode cX2_luby 12 = .ok (.iconst 0, 1) := by decide +kernel
theorem dX2_luby_13 : decode cX2_luby 13 = .ok (.istore 4, 2) := by decide +kernel
theorem dX2_luby_15 : decode cX2_luby 15 = .ok (.iload 4, 2) := by decide +kernel
theorem dX2_luby_17 : decode cX2_luby 17 = .ok (.bipush 30, 2) := by decide +kernel
theorem dX2_luby_19 : decode cX2_luby 19 = .ok (.if_icmp .ge 22, 3) := by decide +kernel
theorem dX2_luby_22 : decode cX2_luby 22 = .ok (.iconst 2, 1) := by decide +kernel
theorem dX2_luby_23 : decode cX2_luby 23 = .ok (.iload_n 3, 1) := by decide +kernel
theorem dX2_luby_24 : decode cX2_luby 24 = .ok (.imul, 1) := by decide +kernel
theorem dX2_luby_25 : decode cX2_luby 25 = .ok (.iconst 1, 1) := by decide +kernel
theorem dX2_luby_26 : decode cX2_luby 26 = .ok (.isub, 1) := by decide +kernel
theorem dX2_luby_27 : decode cX2_luby 27 = .ok (.iload_n 1, 1) := by decide +kernel
theorem dX2_luby_28 : decode cX2_luby 28 = .ok (.if_icmp .gt 13, 3) := by decide +kernel
theorem dX2_luby_31 : decode cX2_luby 31 = .ok (.iload_n 3, 1) := by decide +kernel
theorem dX2_luby_32 : decode cX2_luby 32 = .ok (.iconst 2, 1) := by decide +kernel
theorem dX2_luby_33 : decode cX2_luby 33 = .ok (.imul, 1) := by decide +kernel
theorem dX2_luby_34 : decode cX2_luby 34 = .ok (.istore_n 3, 1) := by decide +kernel
theorem dX2_luby_35 : decode cX2_luby 35 = .ok (.iinc 4 1, 3) := by decide +kernel
theorem dX2_luby_38 : decode cX2_luby 38 = .ok (.goto (-23), 3) := by decide +kernel
theorem dX2_luby_41 : decode cX2_luby 41 = .ok (.iload_n 3, 1) := by decide +kernel
theorem dX2_luby_42 : decode cX2_luby 42 = .ok (.iconst 1, 1) := by decide +kernel
theorem dX2_luby_43 : decode cX2_luby 43 = .ok (.isub, 1) := by decide +kernel
theorem dX2_luby_44 : decode cX2_luby 44 = .ok (.iload_n 1, 1) := by decide +kernel
theorem dX2_luby_45 : decode cX2_luby 45 = .ok (.if_icmp .ne 7, 3) := by decide +kernel
theorem dX2_luby_48 : decode cX2_luby 48 = .ok (.iload_n 3, 1) := by decide +kernel
theorem dX2_luby_49 : decode cX2_luby 49 = .ok (.iconst 2, 1) := by decide +kernel
theorem dX2_luby_50 : decode cX2_luby 50 = .ok (.idiv, 1) := by decide +kernel
theorem dX2_luby_51 : decode cX2_luby 51 = .ok (.ireturn, 1) := by decide +kernel
theorem dX2_luby_52 : decode cX2_luby 52 = .ok (.iload_n 1, 1) := by decide +kernel
theorem dX2_luby_53 : decode cX2_luby 53 = .ok (.iload_n 3, 1) := by decide +kernel
theorem dX2_luby_54 : decode cX2_luby 54 = .ok (.iconst 1, 1) := by decide +kernel
theorem dX2_luby_55 : decode cX2_luby 55 = .ok (.isub, 1) := by decide +kernel
theorem dX2_luby_56 : decode cX2_luby 56 = .ok (.isub, 1) := by decide +kernel
theorem dX2_luby_57 : decode cX2_luby 57 = .ok (.istore_n 1, 1) := by decide +kernel
theorem dX2_luby_58 : decode cX2_luby 58 = .ok (.iinc 2 1, 3) := by decide +kernel
theorem dX2_luby_61 : decode cX2_luby 61 = .ok (.goto (-57), 3) := by decide +kernel
theorem dX2_luby_64 : decode cX2_luby 64 = .ok (.iconst 1, 1) := by decide +kernel
theorem dX2_luby_65 : decode cX2_luby 65 = .ok (.ireturn, 1) := by decide +kernel
theorem dX3_init_0 : decode cX3_init 0 = .ok (.aload_n 0, 1) := by decide +kernel
theorem dX3_init_1 : decode cX3_init 1 = .ok (.invokespecial 3, 3) := by decide +kernel
theorem dX3_init_4 : decode cX3_init 4 = .ok (.aload_n 0, 1) := by decide +kernel
theorem dX3_init_5 : decode cX3_init 5 = .ok (.new 9, 3) := by decide +kernel
theorem dX3_init_8 : decode cX3_init 8 = .ok (.dup, 1) := by decide +kernel
theorem dX3_init_9 : decode cX3_init 9 = .ok (.invokespecial 11, 3) := by decide +kernel
theorem dX3_init_12 : decode cX3_init 12 = .ok (.putfield 12, 3) := by decide +kernel
theorem dX3_init_15 : decode cX3_init 15 = .ok (.aload_n 0, 1) := by decide +kernel
theorem dX3_init_16 : decode cX3_init 16 = .ok (.new 18, 3) := by decide +kernel
theorem dX3_init_19 : decode cX3_init 19 = .ok (.dup, 1) := by decide +kernel
theorem dX3_init_20 : decode cX3_init 20 = .ok (.bipush 8, 2) := by decide +kernel
theorem dX3_init_22 : decode cX3_init 22 = .ok (.invokespecial 20, 3) := by decide +kernel
theorem dX3_init_25 : decode cX3_init 25 = .ok (.putfield 23, 3) := by decide +kernel
theorem dX3_init_28 : decode cX3_init 28 = .ok (.aload_n 0, 1) := by decide +kernel
theorem dX3_init_29 : decode cX3_init 29 = .ok (.new 18, 3) := by decide +kernel
theorem dX3_init_32 : decode cX3_init 32 = .ok (.dup, 1) := by decide +kernel
theorem dX3_init_33 : decode cX3_init 33 = .ok (.bipush 8, 2) := by decide +kernel
theorem dX3_init_35 : decode cX3_init 35 = .ok (.invokespecial 20, 3) := by decide +kernel
theorem dX3_init_38 : decode cX3_init 38 = .ok (.putfield 27, 3) := by decide +kernel
theorem dX3_init_41 : decode cX3_init 41 = .ok (.aload_n 0, 1) := by decide +kernel
theorem dX3_init_42 : decode cX3_init 42 = .ok (.bipush 31, 2) := by decide +kernel
theorem dX3_init_44 : decode cX3_init 44 = .ok (.newarray .int, 2) := by decide +kernel
theorem dX3_init_46 : decode cX3_init 46 = .ok (.putfield 30, 3) := by decide +kernel
theorem dX3_init_49 : decode cX3_init 49 = .ok (.aload_n 0, 1) := by decide +kernel
theorem dX3_init_50 : decode cX3_init 50 = .ok (.iconst (-1), 1) := by decide +kernel
theorem dX3_init_51 : decode cX3_init 51 = .ok (.putfield 34, 3) := by decide +kernel
theorem dX3_init_54 : decode cX3_init 54 = .ok (.aload_n 0, 1) := by decide +kernel
theorem dX3_init_55 : decode cX3_init 55 = .ok (.iconst (-1), 1) := by decide +kernel
theorem dX3_init_56 : decode cX3_init 56 = .ok (.putfield 38, 3) := by decide +kernel
theorem dX3_init_59 : decode cX3_init 59 = .ok (.return_, 1) := by decide +kernel
theorem dX3_hasLiteral_0 : decode cX3_hasLiteral 0 = .ok (.iload_n 1, 1) := by decide +kernel
theorem dX3_hasLiteral_1 : decode cX3_hasLiteral 1 = .ok (.ifCond .eq 24, 3) := by decide +kernel
theorem dX3_hasLiteral_4 : decode cX3_hasLiteral 4 = .ok (.iload_n 1, 1) := by decide +kernel
theorem dX3_hasLiteral_5 : decode cX3_hasLiteral 5 = .ok (.aload_n 0, 1) := by decide +kernel
theorem dX3_hasLiteral_6 : decode cX3_hasLiteral 6 = .ok (.getfield 41, 3) := by decide +kernel
theorem dX3_hasLiteral_9 : decode cX3_hasLiteral 9 = .ok (.if_icmp .gt 16, 3) := by decide +kernel
theorem dX3_hasLiteral_12 : decode cX3_hasLiteral 12 = .ok (.iload_n 1, 1) := by decide +kernel
theorem dX3_hasLiteral_13 : decode cX3_hasLiteral 13 = .ok (.aload_n 0, 1) := by decide +kernel
theorem dX3_hasLiteral_14 : decode cX3_hasLiteral 14 = .ok (.getfield 41, 3) := by decide +kernel
theorem dX3_hasLiteral_17 : decode cX3_hasLiteral 17 = .ok (.ineg, 1) := by decide +kernel
theorem dX3_hasLiteral_18 : decode cX3_hasLiteral 18 = .ok (.if_icmp .lt 7, 3) := by decide +kernel
theorem dX3_hasLiteral_21 : decode cX3_hasLiteral 21 = .ok (.iconst 1, 1) := by decide +kernel
theorem dX3_hasLiteral_22 : decode cX3_hasLiteral 22 = .ok (.goto 4, 3) := by decide +kernel
theorem dX3_hasLiteral_25 : decode cX3_hasLiteral 25 = .ok (.iconst 0, 1) := by decide +kernel
theorem dX3_hasLiteral_26 : decode cX3_hasLiteral 26 = .ok (.ireturn, 1) := by decide +kernel
theorem dX3_phaseOf_0 : decode cX3_phaseOf 0 = .ok (.aload_n 0, 1) := by decide +kernel
theorem dX3_phaseOf_1 : decode cX3_phaseOf 1 = .ok (.getfield 44, 3) := by decide +kernel
theorem dX3_phaseOf_4 : decode cX3_phaseOf 4 = .ok (.iload_n 1, 1) := by decide +kernel
theorem dX3_phaseOf_5 : decode cX3_phaseOf 5 = .ok (.invokestatic 47, 3) := by decide +kernel
theorem dX3_phaseOf_8 : decode cX3_phaseOf 8 = .ok (.iand, 1) := by decide +kernel
theorem dX3_phaseOf_9 : decode cX3_phaseOf 9 = .ok (.ifCond .eq 7, 3) := by decide +kernel
theorem dX3_phaseOf_12 : decode cX3_phaseOf 12 = .ok (.iconst 1, 1) := by decide +kernel
theorem dX3_phaseOf_13 : decode cX3_phaseOf 13 = .ok (.goto 4, 3) := by decide +kernel
theorem dX3_phaseOf_16 : decode cX3_phaseOf 16 = .ok (.iconst 0, 1) := by decide +kernel
theorem dX3_phaseOf_17 : decode cX3_phaseOf 17 = .ok (.ireturn, 1) := by decide +kernel
theorem dX3_setPhase_0 : decode cX3_setPhase 0 = .ok (.iload_n 1, 1) := by decide +kernel
theorem dX3_setPhase_1 : decode cX3_setPhase 1 = .ok (.ifCond .le 19, 3) := by decide +kernel
theorem dX3_setPhase_4 : decode cX3_setPhase 4 = .ok (.aload_n 0, 1) := by decide +kernel
theorem dX3_setPhase_5 : decode cX3_setPhase 5 = .ok (.dup, 1) := by decide +kernel
theorem dX3_setPhase_6 : decode cX3_setPhase 6 = .ok (.getfield 44, 3) := by decide +kernel
theorem dX3_setPhase_9 : decode cX3_setPhase 9 = .ok (.iload_n 1, 1) := by decide +kernel
theorem dX3_setPhase_10 : decode cX3_setPhase 10 = .ok (.invokestatic 47, 3) := by decide +kernel
theorem dX3_setPhase_13 : decode cX3_setPhase 13 = .ok (.ior, 1) := by decide +kernel
theorem dX3_setPhase_14 : decode cX3_setPhase 14 = .ok (.putfield 44, 3) := by decide +kernel
theorem dX3_setPhase_17 : decode cX3_setPhase 17 = .ok (.goto 18, 3) := by decide +kernel
theorem dX3_setPhase_20 : decode cX3_setPhase 20 = .ok (.aload_n 0, 1) := by decide +kernel
theorem dX3_setPhase_21 : decode cX3_setPhase 21 = .ok (.dup, 1) := by decide +kernel
theorem dX3_setPhase_22 : decode cX3_setPhase 22 = .ok (.getfield 44, 3) := by decide +kernel
theorem dX3_setPhase_25 : decode cX3_setPhase 25 = .ok (.iload_n 1, 1) := by decide +kernel
theorem dX3_setPhase_26 : decode cX3_setPhase 26 = .ok (.invokestatic 47, 3) := by decide +kernel
theorem dX3_setPhase_29 : decode cX3_setPhase 29 = .ok (.iconst (-1), 1) := by decide +kernel
theorem dX3_setPhase_30 : decode cX3_setPhase 30 = .ok (.ixor, 1) := by decide +kernel
theorem dX3_setPhase_31 : decode cX3_setPhase 31 = .ok (.iand, 1) := by decide +kernel
theorem dX3_setPhase_32 : decode cX3_setPhase 32 = .ok (.putfield 44, 3) := by decide +kernel
theorem dX3_setPhase_35 : decode cX3_setPhase 35 = .ok (.return_, 1) := by decide +kernel
theorem dX3_copyFrom_0 : decode cX3_copyFrom 0 = .ok (.aload_n 0, 1) := by decide +kernel
theorem dX3_copyFrom_1 : decode cX3_copyFrom 1 = .ok (.getfield 12, 3) := by decide +kernel
theorem dX3_copyFrom_4 : decode cX3_copyFrom 4 = .ok (.aload_n 1, 1) := by decide +kernel
theorem dX3_copyFrom_5 : decode cX3_copyFrom 5 = .ok (.getfield 12, 3) := by decide +kernel
theorem dX3_copyFrom_8 : decode cX3_copyFrom 8 = .ok (.invokevirtual 51, 3) := by decide +kernel
theorem dX3_copyFrom_11 : decode cX3_copyFrom 11 = .ok (.aload_n 0, 1) := by decide +kernel
theorem dX3_copyFrom_12 : decode cX3_copyFrom 12 = .ok (.getfield 23, 3) := by decide +kernel
theorem dX3_copyFrom_15 : decode cX3_copyFrom 15 = .ok (.aload_n 1, 1) := by decide +kernel
theorem dX3_copyFrom_16 : decode cX3_copyFrom 16 = .ok (.getfield 23, 3) := by decide +kernel
theorem dX3_copyFrom_19 : decode cX3_copyFrom 19 = .ok (.invokevirtual 55, 3) := by decide +kernel
theorem dX3_copyFrom_22 : decode cX3_copyFrom 22 = .ok (.aload_n 0, 1) := by decide +kernel
theorem dX3_copyFrom_23 : decode cX3_copyFrom 23 = .ok (.getfield 27, 3) := by decide +kernel
theorem dX3_copyFrom_26 : decode cX3_copyFrom 26 = .ok (.aload_n 1, 1) := by decide +kernel
theorem dX3_copyFrom_27 : decode cX3_copyFrom 27 = .ok (.getfield 27, 3) := by decide +kernel
theorem dX3_copyFrom_30 : decode cX3_copyFrom 30 = .ok (.invokevirtual 55, 3) := by decide +kernel
theorem dX3_copyFrom_33 : decode cX3_copyFrom 33 = .ok (.aload_n 1, 1) := by decide +kernel
theorem dX3_copyFrom_34 : decode cX3_copyFrom 34 = .ok (.getfield 30, 3) := by decide +kernel
theorem dX3_copyFrom_37 : decode cX3_copyFrom 37 = .ok (.iconst 0, 1) := by decide +kernel
theorem dX3_copyFrom_38 : decode cX3_copyFrom 38 = .ok (.aload_n 0, 1) := by decide +kernel
theorem dX3_copyFrom_39 : decode cX3_copyFrom 39 = .ok (.getfield 30, 3) := by decide +kernel
theorem dX3_copyFrom_42 : decode cX3_copyFrom 42 = .ok (.iconst 0, 1) := by decide +kernel
theorem dX3_copyFrom_43 : decode cX3_copyFrom 43 = .ok (.aload_n 0, 1) := by decide +kernel
theorem dX3_copyFrom_44 : decode cX3_copyFrom 44 = .ok (.getfield 30, 3) := by decide +kernel
theorem dX3_copyFrom_47 : decode cX3_copyFrom 47 = .ok (.arraylength, 1) := by decide +kernel
theorem dX3_copyFrom_48 : decode cX3_copyFrom 48 = .ok (.invokestatic 58, 3) := by decide +kernel
theorem dX3_copyFrom_51 : decode cX3_copyFrom 51 = .ok (.aload_n 0, 1) := by decide +kernel
theorem dX3_copyFrom_52 : decode cX3_copyFrom 52 = .ok (.aload_n 1, 1) := by decide +kernel
theorem dX3_copyFrom_53 : decode cX3_copyFrom 53 = .ok (.getfield 41, 3) := by decide +kernel
theorem dX3_copyFrom_56 : decode cX3_copyFrom 56 = .ok (.putfield 41, 3) := by decide +kernel
theorem dX3_copyFrom_59 : decode cX3_copyFrom 59 = .ok (.aload_n 0, 1) := by decide +kernel
theorem dX3_copyFrom_60 : decode cX3_copyFrom 60 = .ok (.aload_n 1, 1) := by decide +kernel
theorem dX3_copyFrom_61 : decode cX3_copyFrom 61 = .ok (.getfield 44, 3) := by decide +kernel
theorem dX3_copyFrom_64 : decode cX3_copyFrom 64 = .ok (.putfield 44, 3) := by decide +kernel
theorem dX3_copyFrom_67 : decode cX3_copyFrom 67 = .ok (.aload_n 0, 1) := by decide +kernel
theorem dX3_copyFrom_68 : decode cX3_copyFrom 68 = .ok (.aload_n 1, 1) := by decide +kernel
theorem dX3_copyFrom_69 : decode cX3_copyFrom 69 = .ok (.getfield 64, 3) := by decide +kernel
theorem dX3_copyFrom_72 : decode cX3_copyFrom 72 = .ok (.putfield 64, 3) := by decide +kernel
theorem dX3_copyFrom_75 : decode cX3_copyFrom 75 = .ok (.aload_n 0, 1) := by decide +kernel
theorem dX3_copyFrom_76 : decode cX3_copyFrom 76 = .ok (.aload_n 1, 1) := by decide +kernel
theorem dX3_copyFrom_77 : decode cX3_copyFrom 77 = .ok (.getfield 67, 3) := by decide +kernel
theorem dX3_copyFrom_80 : decode cX3_copyFrom 80 = .ok (.putfield 67, 3) := by decide +kernel
theorem dX3_copyFrom_83 : decode cX3_copyFrom 83 = .ok (.aload_n 0, 1) := by decide +kernel
theorem dX3_copyFrom_84 : decode cX3_copyFrom 84 = .ok (.aload_n 1, 1) := by decide +kernel
theorem dX3_copyFrom_85 : decode cX3_copyFrom 85 = .ok (.getfield 71, 3) := by decide +kernel
theorem dX3_copyFrom_88 : decode cX3_copyFrom 88 = .ok (.putfield 71, 3) := by decide +kernel
theorem dX3_copyFrom_91 : decode cX3_copyFrom 91 = .ok (.aload_n 0, 1) := by decide +kernel
theorem dX3_copyFrom_92 : decode cX3_copyFrom 92 = .ok (.aload_n 1, 1) := by decide +kernel
theorem dX3_copyFrom_93 : decode cX3_copyFrom 93 = .ok (.getfield 74, 3) := by decide +kernel
theorem dX3_copyFrom_96 : decode cX3_copyFrom 96 = .ok (.putfield 74, 3) := by decide +kernel
theorem dX3_copyFrom_99 : decode cX3_copyFrom 99 = .ok (.aload_n 0, 1) := by decide +kernel
theorem dX3_copyFrom_100 : decode cX3_copyFrom 100 = .ok (.aload_n 1, 1) := by decide +kernel
theorem dX3_copyFrom_101 : decode cX3_copyFrom 101 = .ok (.getfield 77, 3) := by decide +kernel
theorem dX3_copyFrom_104 : decode cX3_copyFrom 104 = .ok (.putfield 77, 3) := by decide +kernel
theorem dX3_copyFrom_107 : decode cX3_copyFrom 107 = .ok (.aload_n 0, 1) := by decide +kernel
theorem dX3_copyFrom_108 : decode cX3_copyFrom 108 = .ok (.aload_n 1, 1) := by decide +kernel
theorem dX3_copyFrom_109 : decode cX3_copyFrom 109 = .ok (.getfield 80, 3) := by decide +kernel
theorem dX3_copyFrom_112 : decode cX3_copyFrom 112 = .ok (.putfield 80, 3) := by decide +kernel
theorem dX3_copyFrom_115 : decode cX3_copyFrom 115 = .ok (.aload_n 0, 1) := by decide +kernel
theorem dX3_copyFrom_116 : decode cX3_copyFrom 116 = .ok (.aload_n 1, 1) := by decide +kernel
theorem dX3_copyFrom_117 : decode cX3_copyFrom 117 = .ok (.getfield 34, 3) := by decide +kernel
theorem dX3_copyFrom_120 : decode cX3_copyFrom 120 = .ok (.putfield 34, 3) := by decide +kernel
theorem dX3_copyFrom_123 : decode cX3_copyFrom 123 = .ok (.aload_n 0, 1) := by decide +kernel
theorem dX3_copyFrom_124 : decode cX3_copyFrom 124 = .ok (.aload_n 1, 1) := by decide +kernel
theorem dX3_copyFrom_125 : decode cX3_copyFrom 125 = .ok (.getfield 83, 3) := by decide +kernel
theorem dX3_copyFrom_128 : decode cX3_copyFrom 128 = .ok (.putfield 83, 3) := by decide +kernel
theorem dX3_copyFrom_131 : decode cX3_copyFrom 131 = .ok (.aload_n 0, 1) := by decide +kernel
theorem dX3_copyFrom_132 : decode cX3_copyFrom 132 = .ok (.aload_n 1, 1) := by decide +kernel
theorem dX3_copyFrom_133 : decode cX3_copyFrom 133 = .ok (.getfield 86, 3) := by decide +kernel
theorem dX3_copyFrom_136 : decode cX3_copyFrom 136 = .ok (.putfield 86, 3) := by decide +kernel
theorem dX3_copyFrom_139 : decode cX3_copyFrom 139 = .ok (.aload_n 0, 1) := by decide +kernel
theorem dX3_copyFrom_140 : decode cX3_copyFrom 140 = .ok (.aload_n 1, 1) := by decide +kernel
theorem dX3_copyFrom_141 : decode cX3_copyFrom 141 = .ok (.getfield 89, 3) := by decide +kernel
theorem dX3_copyFrom_144 : decode cX3_copyFrom 144 = .ok (.putfield 89, 3) := by decide +kernel
theorem dX3_copyFrom_147 : decode cX3_copyFrom 147 = .ok (.aload_n 0, 1) := by decide +kernel
theorem dX3_copyFrom_148 : decode cX3_copyFrom 148 = .ok (.aload_n 1, 1) := by decide +kernel
theorem dX3_copyFrom_149 : decode cX3_copyFrom 149 = .ok (.getfield 38, 3) := by decide +kernel
theorem dX3_copyFrom_152 : decode cX3_copyFrom 152 = .ok (.putfield 38, 3) := by decide +kernel
theorem dX3_copyFrom_155 : decode cX3_copyFrom 155 = .ok (.return_, 1) := by decide +kernel
theorem dX4_init_0 : decode cX4_init 0 = .ok (.aload_n 0, 1) := by decide +kernel
theorem dX4_init_1 : decode cX4_init 1 = .ok (.invokespecial 3, 3) := by decide +kernel
theorem dX4_init_4 : decode cX4_init 4 = .ok (.aload_n 0, 1) := by decide +kernel
theorem dX4_init_5 : decode cX4_init 5 = .ok (.new 9, 3) := by decide +kernel
theorem dX4_init_8 : decode cX4_init 8 = .ok (.dup, 1) := by decide +kernel
theorem dX4_init_9 : decode cX4_init 9 = .ok (.bipush 8, 2) := by decide +kernel
theorem dX4_init_11 : decode cX4_init 11 = .ok (.invokespecial 11, 3) := by decide +kernel
theorem dX4_init_14 : decode cX4_init 14 = .ok (.putfield 14, 3) := by decide +kernel
theorem dX4_init_17 : decode cX4_init 17 = .ok (.aload_n 0, 1) := by decide +kernel
theorem dX4_init_18 : decode cX4_init 18 = .ok (.aload_n 1, 1) := by decide +kernel
theorem dX4_init_19 : decode cX4_init 19 = .ok (.putfield 20, 3) := by decide +kernel
theorem dX4_init_22 : decode cX4_init 22 = .ok (.aload_n 0, 1) := by decide +kernel
theorem dX4_init_23 : decode cX4_init 23 = .ok (.aload_n 2, 1) := by decide +kernel
theorem dX4_init_24 : decode cX4_init 24 = .ok (.putfield 24, 3) := by decide +kernel
theorem dX4_init_27 : decode cX4_init 27 = .ok (.return_, 1) := by decide +kernel
theorem dX4_read_0 : decode cX4_read 0 = .ok (.aload_n 0, 1) := by decide +kernel
theorem dX4_read_1 : decode cX4_read 1 = .ok (.iload_n 1, 1) := by decide +kernel
theorem dX4_read_2 : decode cX4_read 2 = .ok (.putfield 28, 3) := by decide +kernel
theorem dX4_read_5 : decode cX4_read 5 = .ok (.aload_n 0, 1) := by decide +kernel
theorem dX4_read_6 : decode cX4_read 6 = .ok (.aload_n 0, 1) := by decide +kernel
theorem dX4_read_7 : decode cX4_read 7 = .ok (.getfield 24, 3) := by decide +kernel
theorem dX4_read_10 : decode cX4_read 10 = .ok (.getfield 32, 3) := by decide +kernel
theorem dX4_read_13 : decode cX4_read 13 = .ok (.putfield 38, 3) := by decide +kernel
theorem dX4_read_16 : decode cX4_read 16 = .ok (.aload_n 0, 1) := by decide +kernel
theorem dX4_read_17 : decode cX4_read 17 = .ok (.aload_n 0, 1) := by decide +kernel
theorem dX4_read_18 : decode cX4_read 18 = .ok (.getfield 24, 3) := by decide +kernel
theorem dX4_read_21 : decode cX4_read 21 = .ok (.getfield 39, 3) := by decide +kernel
theorem dX4_read_24 : decode cX4_read 24 = .ok (.getfield 43, 3) := by decide +kernel
theorem dX4_read_27 : decode cX4_read 27 = .ok (.putfield 48, 3) := by decide +kernel
theorem dX4_read_30 : decode cX4_read 30 = .ok (.aload_n 0, 1) := by decide +kernel
theorem dX4_read_31 : decode cX4_read 31 = .ok (.aload_n 0, 1) := by decide +kernel
theorem dX4_read_32 : decode cX4_read 32 = .ok (.getfield 24, 3) := by decide +kernel
theorem dX4_read_35 : decode cX4_read 35 = .ok (.getfield 39, 3) := by decide +kernel
theorem dX4_read_38 : decode cX4_read 38 = .ok (.getfield 49, 3) := by decide +kernel
theorem dX4_read_41 : decode cX4_read 41 = .ok (.putfield 52, 3) := by decide +kernel
theorem dX4_read_44 : decode cX4_read 44 = .ok (.aload_n 0, 1) := by decide +kernel
theorem dX4_read_45 : decode cX4_read 45 = .ok (.getfield 20, 3) := by decide +kernel
theorem dX4_read_48 : decode cX4_read 48 = .ok (.invokevirtual 55, 3) := by decide +kernel
theorem dX4_read_51 : decode cX4_read 51 = .ok (.iconst 0, 1) := by decide +kernel
theorem dX4_read_52 : decode cX4_read 52 = .ok (.istore_n 2, 1) := by decide +kernel
theorem dX4_read_53 : decode cX4_read 53 = .ok (.iconst 0, 1) := by decide +kernel
theorem dX4_read_54 : decode cX4_read 54 = .ok (.istore_n 3, 1) := by decide +kernel
theorem dX4_read_55 : decode cX4_read 55 = .ok (.iload_n 3, 1) := by decide +kernel
theorem dX4_read_56 : decode cX4_read 56 = .ok (.sipush 400, 3) := by decide +kernel
theorem dX4_read_59 : decode cX4_read 59 = .ok (.if_icmp .gt 40, 3) := by decide +kernel
theorem dX4_read_62 : decode cX4_read 62 = .ok (.aload_n 0, 1) := by decide +kernel
theorem dX4_read_63 : decode cX4_read 63 = .ok (.getfield 20, 3) := by decide +kernel
theorem dX4_read_66 : decode cX4_read 66 = .ok (.getfield 60, 3) := by decide +kernel
theorem dX4_read_69 : decode cX4_read 69 = .ok (.bipush (-7), 2) := by decide +kernel
theorem dX4_read_71 : decode cX4_read 71 = .ok (.if_icmp .eq 28, 3) := by decide +kernel
theorem dX4_read_74 : decode cX4_read 74 = .ok (.aload_n 0, 1) := by decide +kernel
theorem dX4_read_75 : decode cX4_read 75 = .ok (.invokevirtual 63, 3) := by decide +kernel
theorem dX4_read_78 : decode cX4_read 78 = .ok (.ifCond .ne 5, 3) := by decide +kernel
theorem dX4_read_81 : decode cX4_read 81 = .ok (.iconst (-1), 1) := by decide +kernel
theorem dX4_read_82 : decode cX4_read 82 = .ok (.ireturn, 1) := by decide +kernel
theorem dX4_read_83 : decode cX4_read 83 = .ok (.aload_n 0, 1) := by decide +kernel
theorem dX4_read_84 : decode cX4_read 84 = .ok (.getfield 20, 3) := by decide +kernel
theorem dX4_read_87 : decode cX4_read 87 = .ok (.invokevirtual 67, 3) := by decide +kernel
theorem dX4_read_90 : decode cX4_read 90 = .ok (.iinc 2 1, 3) := by decide +kernel
theorem dX4_read_93 : decode cX4_read 93 = .ok (.iinc 3 1, 3) := by decide +kernel
theorem dX4_read_96 : decode cX4_read 96 = .ok (.goto (-41), 3) := by decide +kernel
theorem dX4_read_99 : decode cX4_read 99 = .ok (.iload_n 2, 1) := by decide +kernel
theorem dX4_read_100 : decode cX4_read 100 = .ok (.ireturn, 1) := by decide +kernel
theorem dX4_readStatement_0 : decode cX4_readStatement 0 = .ok (.aload_n 0, 1) := by decide +kernel
theorem dX4_readStatement_1 : decode cX4_readStatement 1 = .ok (.getfield 20, 3) := by decide +kernel
theorem dX4_readStatement_4 : decode cX4_readStatement 4 = .ok (.getfield 60, 3) := by decide +kernel
theorem dX4_readStatement_7 : decode cX4_readStatement 7 = .ok (.tableswitch 40 (-5) (-3) #[35, 30, 25], 25) := by decide +kernel
theorem dX4_readStatement_32 : decode cX4_readStatement 32 = .ok (.aload_n 0, 1) := by decide +kernel
theorem dX4_readStatement_33 : decode cX4_readStatement 33 = .ok (.invokevirtual 70, 3) := by decide +kernel
theorem dX4_readStatement_36 : decode cX4_readStatement 36 = .ok (.ireturn, 1) := by decide +kernel
theorem dX4_readStatement_37 : decode cX4_readStatement 37 = .ok (.aload_n 0, 1) := by decide +kernel
theorem dX4_readStatement_38 : decode cX4_readStatement 38 = .ok (.invokevirtual 73, 3) := by decide +kernel
theorem dX4_readStatement_41 : decode cX4_readStatement 41 = .ok (.ireturn, 1) := by decide +kernel
theorem dX4_readStatement_42 : decode cX4_readStatement 42 = .ok (.aload_n 0, 1) := by decide +kernel
theorem dX4_readStatement_43 : decode cX4_readStatement 43 = .ok (.invokevirtual 76, 3) := by decide +kernel
theorem dX4_readStatement_46 : decode cX4_readStatement 46 = .ok (.ireturn, 1) := by decide +kernel
theorem dX4_readStatement_47 : decode cX4_readStatement 47 = .ok (.aload_n 0, 1) := by decide +kernel
theorem dX4_readStatement_48 : decode cX4_readStatement 48 = .ok (.invokevirtual 79, 3) := by decide +kernel
theorem dX4_readStatement_51 : decode cX4_readStatement 51 = .ok (.ireturn, 1) := by decide +kernel
theorem dX4_readGrow_0 : decode cX4_readGrow 0 = .ok (.aload_n 0, 1) := by decide +kernel
theorem dX4_readGrow_1 : decode cX4_readGrow 1 = .ok (.getfield 20, 3) := by decide +kernel
theorem dX4_readGrow_4 : decode cX4_readGrow 4 = .ok (.invokevirtual 67, 3) := by decide +kernel
theorem dX4_readGrow_7 : decode cX4_readGrow 7 = .ok (.aload_n 0, 1) := by decide +kernel
theorem dX4_readGrow_8 : decode cX4_readGrow 8 = .ok (.getfield 20, 3) := by decide +kernel
theorem dX4_readGrow_11 : decode cX4_readGrow 11 = .ok (.getfield 60, 3) := by decide +kernel
theorem dX4_readGrow_14 : decode cX4_readGrow 14 = .ok (.ifCond .ge 12, 3) := by decide +kernel
theorem dX4_readGrow_17 : decode cX4_readGrow 17 = .ok (.aload_n 0, 1) := by decide +kernel
theorem dX4_readGrow_18 : decode cX4_readGrow 18 = .ok (.getfield 20, 3) := by decide +kernel
theorem dX4_readGrow_21 : decode cX4_readGrow 21 = .ok (.iconst 1, 1) := by decide +kernel
theorem dX4_readGrow_22 : decode cX4_readGrow 22 = .ok (.invokevirtual 82, 3) := by decide +kernel
theorem dX4_readGrow_25 : decode cX4_readGrow 25 = .ok (.ireturn, 1) := by decide +kernel
theorem dX4_readGrow_26 : decode cX4_readGrow 26 = .ok (.aload_n 0, 1) := by decide +kernel
theorem dX4_readGrow_27 : decode cX4_readGrow 27 = .ok (.getfield 20, 3) := by decide +kernel
theorem dX4_readGrow_30 : decode cX4_readGrow 30 = .ok (.getfield 60, 3) := by decide +kernel
theorem dX4_readGrow_33 : decode cX4_readGrow 33 = .ok (.ifCond .eq 20, 3) := by decide +kernel
theorem dX4_readGrow_36 : decode cX4_readGrow 36 = .ok (.aload_n 0, 1) := by decide +kernel
theorem dX4_readGrow_37 : decode cX4_readGrow 37 = .ok (.getfield 38, 3) := by decide +kernel
theorem dX4_readGrow_40 : decode cX4_readGrow 40 = .ok (.aload_n 0, 1) := by decide +kernel
theorem dX4_readGrow_41 : decode cX4_readGrow 41 = .ok (.getfield 20, 3) := by decide +kernel
theorem dX4_readGrow_44 : decode cX4_readGrow 44 = .ok (.getfield 60, 3) := by decide +kernel
theorem dX4_readGrow_47 : decode cX4_readGrow 47 = .ok (.iadd, 1) := by decide +kernel
theorem dX4_readGrow_48 : decode cX4_readGrow 48 = .ok (.bipush 30, 2) := by decide +kernel
theorem dX4_readGrow_50 : decode cX4_readGrow 50 = .ok (.if_icmp .le 12, 3) := by decide +kernel
theorem dX4_readGrow_53 : decode cX4_readGrow 53 = .ok (.aload_n 0, 1) := by decide +kernel
theorem dX4_readGrow_54 : decode cX4_readGrow 54 = .ok (.getfield 20, 3) := by decide +kernel
theorem dX4_readGrow_57 : decode cX4_readGrow 57 = .ok (.iconst 2, 1) := by decide +kernel
theorem dX4_readGrow_58 : decode cX4_readGrow 58 = .ok (.invokevirtual 82, 3) := by decide +kernel
theorem dX4_readGrow_61 : decode cX4_readGrow 61 = .ok (.ireturn, 1) := by decide +kernel
theorem dX4_readGrow_62 : decode cX4_readGrow 62 = .ok (.aload_n 0, 1) := by decide +kernel
theorem dX4_readGrow_63 : decode cX4_readGrow 63 = .ok (.dup, 1) := by decide +kernel
theorem dX4_readGrow_64 : decode cX4_readGrow 64 = .ok (.getfield 38, 3) := by decide +kernel
theorem dX4_readGrow_67 : decode cX4_readGrow 67 = .ok (.aload_n 0, 1) := by decide +kernel
theorem dX4_readGrow_68 : decode cX4_readGrow 68 = .ok (.getfield 20, 3) := by decide +kernel
theorem dX4_readGrow_71 : decode cX4_readGrow 71 = .ok (.getfield 60, 3) := by decide +kernel
theorem dX4_readGrow_74 : decode cX4_readGrow 74 = .ok (.iadd, 1) := by decide +kernel
theorem dX4_readGrow_75 : decode cX4_readGrow 75 = .ok (.putfield 38, 3) := by decide +kernel
theorem dX4_readGrow_78 : decode cX4_readGrow 78 = .ok (.aload_n 0, 1) := by decide +kernel
theorem dX4_readGrow_79 : decode cX4_readGrow 79 = .ok (.getfield 28, 3) := by decide +kernel
theorem dX4_readGrow_82 : decode cX4_readGrow 82 = .ok (.ifCond .eq 14, 3) := by decide +kernel
theorem dX4_readGrow_85 : decode cX4_readGrow 85 = .ok (.aload_n 0, 1) := by decide +kernel
theorem dX4_readGrow_86 : decode cX4_readGrow 86 = .ok (.getfield 24, 3) := by decide +kernel
theorem dX4_readGrow_89 : decode cX4_readGrow 89 = .ok (.aload_n 0, 1) := by decide +kernel
theorem dX4_readGrow_90 : decode cX4_readGrow 90 = .ok (.getfield 38, 3) := by decide +kernel
theorem dX4_readGrow_93 : decode cX4_readGrow 93 = .ok (.putfield 32, 3) := by decide +kernel
theorem dX4_readGrow_96 : decode cX4_readGrow 96 = .ok (.aload_n 0, 1) := by decide +kernel
theorem dX4_readGrow_97 : decode cX4_readGrow 97 = .ok (.getfield 20, 3) := by decide +kernel
theorem dX4_readGrow_100 : decode cX4_readGrow 100 = .ok (.invokevirtual 67, 3) := by decide +kernel
theorem dX4_readGrow_103 : decode cX4_readGrow 103 = .ok (.aload_n 0, 1) := by decide +kernel
theorem dX4_readGrow_104 : decode cX4_readGrow 104 = .ok (.getfield 20, 3) := by decide +kernel
theorem dX4_readGrow_107 : decode cX4_readGrow 107 = .ok (.getfield 60, 3) := by decide +kernel
theorem dX4_readGrow_110 : decode cX4_readGrow 110 = .ok (.bipush (-2), 2) := by decide +kernel
theorem dX4_readGrow_112 : decode cX4_readGrow 112 = .ok (.if_icmp .eq 14, 3) := by decide +kernel
theorem dX4_readGrow_115 : decode cX4_readGrow 115 = .ok (.aload_n 0, 1) := by decide +kernel
theorem dX4_readGrow_116 : decode cX4_readGrow 116 = .ok (.getfield 20, 3) := by decide +kernel
theorem dX4_readGrow_119 : decode cX4_readGrow 119 = .ok (.iconst 1, 1) := by decide +kernel
theorem dX4_readGrow_120 : decode cX4_readGrow 120 = .ok (.invokevirtual 82, 3) := by decide +kernel
theorem dX4_readGrow_123 : decode cX4_readGrow 123 = .ok (.ifCond .eq 7, 3) := by decide +kernel
theorem dX4_readGrow_126 : decode cX4_readGrow 126 = .ok (.iconst 1, 1) := by decide +kernel
theorem dX4_readGrow_127 : decode cX4_readGrow 127 = .ok (.goto 4, 3) := by decide +kernel
theorem dX4_readGrow_130 : decode cX4_readGrow 130 = .ok (.iconst 0, 1) := by decide +kernel
theorem dX4_readGrow_131 : decode cX4_readGrow 131 = .ok (.ireturn, 1) := by decide +kernel
theorem dX4_readAssume_0 : decode cX4_readAssume 0 = .ok (.aload_n 0, 1) := by decide +kernel
theorem dX4_readAssume_1 : decode cX4_readAssume 1 = .ok (.getfield 20, 3) := by decide +kernel
theorem dX4_readAssume_4 : decode cX4_readAssume 4 = .ok (.invokevirtual 67, 3) := by decide +kernel
theorem dX4_readAssume_7 : decode cX4_readAssume 7 = .ok (.aload_n 0, 1) := by decide +kernel
theorem dX4_readAssume_8 : decode cX4_readAssume 8 = .ok (.iconst 0, 1) := by decide +kernel
theorem dX4_readAssume_9 : decode cX4_readAssume 9 = .ok (.invokevirtual 86, 3) := by decide +kernel
theorem dX4_readAssume_12 : decode cX4_readAssume 12 = .ok (.ifCond .ne 5, 3) := by decide +kernel
theorem dX4_readAssume_15 : decode cX4_readAssume 15 = .ok (.iconst 0, 1) := by decide +kernel
theorem dX4_readAssume_16 : decode cX4_readAssume 16 = .ok (.ireturn, 1) := by decide +kernel
theorem dX4_readAssume_17 : decode cX4_readAssume 17 = .ok (.aload_n 0, 1) := by decide +kernel
theorem dX4_readAssume_18 : decode cX4_readAssume 18 = .ok (.getfield 28, 3) := by decide +kernel
theorem dX4_readAssume_21 : decode cX4_readAssume 21 = .ok (.ifCond .eq 17, 3) := by decide +kernel
theorem dX4_readAssume_24 : decode cX4_readAssume 24 = .ok (.aload_n 0, 1) := by decide +kernel
theorem dX4_readAssume_25 : decode cX4_readAssume 25 = .ok (.getfield 24, 3) := by decide +kernel
theorem dX4_readAssume_28 : decode cX4_readAssume 28 = .ok (.getfield 90, 3) := by decide +kernel
theorem dX4_readAssume_31 : decode cX4_readAssume 31 = .ok (.aload_n 0, 1) := by decide +kernel
theorem dX4_readAssume_32 : decode cX4_readAssume 32 = .ok (.getfield 14, 3) := by decide +kernel
theorem dX4_readAssume_35 : decode cX4_readAssume 35 = .ok (.invokevirtual 93, 3) := by decide +kernel
theorem dX4_readAssume_38 : decode cX4_readAssume 38 = .ok (.iconst 1, 1) := by decide +kernel
theorem dX4_readAssume_39 : decode cX4_readAssume 39 = .ok (.ireturn, 1) := by decide +kernel
theorem dX4_readPhases_0 : decode cX4_readPhases 0 = .ok (.aload_n 0, 1) := by decide +kernel
theorem dX4_readPhases_1 : decode cX4_readPhases 1 = .ok (.getfield 20, 3) := by decide +kernel
theorem dX4_readPhases_4 : decode cX4_readPhases 4 = .ok (.invokevirtual 67, 3) := by decide +kernel
theorem dX4_readPhases_7 : decode cX4_readPhases 7 = .ok (.aload_n 0, 1) := by decide +kernel
theorem dX4_readPhases_8 : decode cX4_readPhases 8 = .ok (.getfield 20, 3) := by decide +kernel
theorem dX4_readPhases_11 : decode cX4_readPhases 11 = .ok (.getfield 60, 3) := by decide +kernel
theorem dX4_readPhases_14 : decode cX4_readPhases 14 = .ok (.bipush (-2), 2) := by decide +kernel
theorem dX4_readPhases_16 : decode cX4_readPhases 16 = .ok (.if_icmp .ne 12, 3) := by decide +kernel
theorem dX4_readPhases_19 : decode cX4_readPhases 19 = .ok (.aload_n 0, 1) := by decide +kernel
theorem dX4_readPhases_20 : decode cX4_readPhases 20 = .ok (.getfield 20, 3) := by decide +kernel
theorem dX4_readPhases_23 : decode cX4_readPhases 23 = .ok (.iconst 1, 1) := by decide +kernel
theorem dX4_readPhases_24 : decode cX4_readPhases 24 = .ok (.invokevirtual 82, 3) := by decide +kernel
theorem dX4_readPhases_27 : decode cX4_readPhases 27 = .ok (.ireturn, 1) := by decide +kernel
theorem dX4_readPhases_28 : decode cX4_readPhases 28 = .ok (.iconst 0, 1) := by decide +kernel
theorem dX4_readPhases_29 : decode cX4_readPhases 29 = .ok (.istore_n 1, 1) := by decide +kernel
theorem dX4_readPhases_30 : decode cX4_readPhases 30 = .ok (.iload_n 1, 1) := by decide +kernel
theorem dX4_readPhases_31 : decode cX4_readPhases 31 = .ok (.sipush 400, 3) := by decide +kernel
theorem dX4_readPhases_34 : decode cX4_readPhases 34 = .ok (.if_icmp .gt 56, 3) := by decide +kernel
theorem dX4_readPhases_37 : decode cX4_readPhases 37 = .ok (.aload_n 0, 1) := by decide +kernel
theorem dX4_readPhases_38 : decode cX4_readPhases 38 = .ok (.getfield 20, 3) := by decide +kernel
theorem dX4_readPhases_41 : decode cX4_readPhases 41 = .ok (.getfield 60, 3) := by decide +kernel
theorem dX4_readPhases_44 : decode cX4_readPhases 44 = .ok (.bipush (-2), 2) := by decide +kernel
theorem dX4_readPhases_46 : decode cX4_readPhases 46 = .ok (.if_icmp .eq 44, 3) := by decide +kernel
theorem dX4_readPhases_49 : decode cX4_readPhases 49 = .ok (.aload_n 0, 1) := by decide +kernel
theorem dX4_readPhases_50 : decode cX4_readPhases 50 = .ok (.getfield 20, 3) := by decide +kernel
theorem dX4_readPhases_53 : decode cX4_readPhases 53 = .ok (.aload_n 0, 1) := by decide +kernel
theorem dX4_readPhases_54 : decode cX4_readPhases 54 = .ok (.getfield 38, 3) := by decide +kernel
theorem dX4_readPhases_57 : decode cX4_readPhases 57 = .ok (.iconst 0, 1) := by decide +kernel
theorem dX4_readPhases_58 : decode cX4_readPhases 58 = .ok (.iconst 0, 1) := by decide +kernel
theorem dX4_readPhases_59 : decode cX4_readPhases 59 = .ok (.invokevirtual 97, 3) := by decide +kernel
theorem dX4_readPhases_62 : decode cX4_readPhases 62 = .ok (.istore_n 2, 1) := by decide +kernel
theorem dX4_readPhases_63 : decode cX4_readPhases 63 = .ok (.iload_n 2, 1) := by decide +kernel
theorem dX4_readPhases_64 : decode cX4_readPhases 64 = .ok (.ifCond .ne 5, 3) := by decide +kernel
theorem dX4_readPhases_67 : decode cX4_readPhases 67 = .ok (.iconst 0, 1) := by decide +kernel
theorem dX4_readPhases_68 : decode cX4_readPhases 68 = .ok (.ireturn, 1) := by decide +kernel
theorem dX4_readPhases_69 : decode cX4_readPhases 69 = .ok (.aload_n 0, 1) := by decide +kernel
theorem dX4_readPhases_70 : decode cX4_readPhases 70 = .ok (.getfield 28, 3) := by decide +kernel
theorem dX4_readPhases_73 : decode cX4_readPhases 73 = .ok (.ifCond .eq 11, 3) := by decide +kernel
theorem dX4_readPhases_76 : decode cX4_readPhases 76 = .ok (.aload_n 0, 1) := by decide +kernel
theorem dX4_readPhases_77 : decode cX4_readPhases 77 = .ok (.getfield 24, 3) := by decide +kernel
theorem dX4_readPhases_80 : decode cX4_readPhases 80 = .ok (.iload_n 2, 1) := by decide +kernel
theorem dX4_readPhases_81 : decode cX4_readPhases 81 = .ok (.invokevirtual 101, 3) := by decide +kernel
theorem dX4_readPhases_84 : decode cX4_readPhases 84 = .ok (.iinc 1 1, 3) := by decide +kernel
theorem dX4_readPhases_87 : decode cX4_readPhases 87 = .ok (.goto (-57), 3) := by decide +kernel
theorem dX4_readPhases_90 : decode cX4_readPhases 90 = .ok (.iconst 1, 1) := by decide +kernel
theorem dX4_readPhases_91 : decode cX4_readPhases 91 = .ok (.ireturn, 1) := by decide +kernel
theorem dX4_readClause_0 : decode cX4_readClause 0 = .ok (.aload_n 0, 1) := by decide +kernel
theorem dX4_readClause_1 : decode cX4_readClause 1 = .ok (.getfield 20, 3) := by decide +kernel
theorem dX4_readClause_4 : decode cX4_readClause 4 = .ok (.getfield 60, 3) := by decide +kernel
theorem dX4_readClause_7 : decode cX4_readClause 7 = .ok (.bipush (-2), 2) := by decide +kernel
theorem dX4_readClause_9 : decode cX4_readClause 9 = .ok (.if_icmp .ne 12, 3) := by decide +kernel
theorem dX4_readClause_12 : decode cX4_readClause 12 = .ok (.aload_n 0, 1) := by decide +kernel
theorem dX4_readClause_13 : decode cX4_readClause 13 = .ok (.getfield 20, 3) := by decide +kernel
theorem dX4_readClause_16 : decode cX4_readClause 16 = .ok (.iconst 1, 1) := by decide +kernel
theorem dX4_readClause_17 : decode cX4_readClause 17 = .ok (.invokevirtual 82, 3) := by decide +kernel
theorem dX4_readClause_20 : decode cX4_readClause 20 = .ok (.ireturn, 1) := by decide +kernel
theorem dX4_readClause_21 : decode cX4_readClause 21 = .ok (.aload_n 0, 1) := by decide +kernel
theorem dX4_readClause_22 : decode cX4_readClause 22 = .ok (.aload_n 0, 1) := by decide +kernel
theorem dX4_readClause_23 : decode cX4_readClause 23 = .ok (.getfield 48, 3) := by decide +kernel
theorem dX4_readClause_26 : decode cX4_readClause 26 = .ok (.bipush 80, 2) := by decide +kernel
theorem dX4_readClause_28 : decode cX4_readClause 28 = .ok (.if_icmp .ge 13, 3) := by decide +kernel
theorem dX4_readClause_31 : decode cX4_readClause 31 = .ok (.aload_n 0, 1) := by decide +kernel
theorem dX4_readClause_32 : decode cX4_readClause 32 = .ok (.getfield 52, 3) := by decide +kernel
theorem dX4_readClause_35 : decode cX4_readClause 35 = .ok (.sipush 400, 3) := by decide +kernel
theorem dX4_readClause_38 : decode cX4_readClause 38 = .ok (.if_icmp .lt 7, 3) := by decide +kernel
theorem dX4_readClause_41 : decode cX4_readClause 41 = .ok (.iconst 1, 1) := by decide +kernel
theorem dX4_readClause_42 : decode cX4_readClause 42 = .ok (.goto 4, 3) := by decide +kernel
theorem dX4_readClause_45 : decode cX4_readClause 45 = .ok (.iconst 0, 1) := by decide +kernel
theorem dX4_readClause_46 : decode cX4_readClause 46 = .ok (.invokevirtual 86, 3) := by decide +kernel
theorem dX4_readClause_49 : decode cX4_readClause 49 = .ok (.ifCond .ne 5, 3) := by decide +kernel
theorem dX4_readClause_52 : decode cX4_readClause 52 = .ok (.iconst 0, 1) := by decide +kernel
theorem dX4_readClause_53 : decode cX4_readClause 53 = .ok (.ireturn, 1) := by decide +kernel
theorem dX4_readClause_54 : decode cX4_readClause 54 = .ok (.aload_n 0, 1) := by decide +kernel
theorem dX4_readClause_55 : decode cX4_readClause 55 = .ok (.dup, 1) := by decide +kernel
theorem dX4_readClause_56 : decode cX4_readClause 56 = .ok (.getfield 48, 3) := by decide +kernel
theorem dX4_readClause_59 : decode cX4_readClause 59 = .ok (.iconst 1, 1) := by decide +kernel
theorem dX4_readClause_60 : decode cX4_readClause 60 = .ok (.iadd, 1) := by decide +kernel
theorem dX4_readClause_61 : decode cX4_readClause 61 = .ok (.putfield 48, 3) := by decide +kernel
theorem dX4_readClause_64 : decode cX4_readClause 64 = .ok (.aload_n 0, 1) := by decide +kernel
theorem dX4_readClause_65 : decode cX4_readClause 65 = .ok (.dup, 1) := by decide +kernel
theorem dX4_readClause_66 : decode cX4_readClause 66 = .ok (.getfield 52, 3) := by decide +kernel
theorem dX4_readClause_69 : decode cX4_readClause 69 = .ok (.iconst 1, 1) := by decide +kernel
theorem dX4_readClause_70 : decode cX4_readClause 70 = .ok (.iadd, 1) := by decide +kernel
theorem dX4_readClause_71 : decode cX4_readClause 71 = .ok (.putfield 52, 3) := by decide +kernel
theorem dX4_readClause_74 : decode cX4_readClause 74 = .ok (.aload_n 0, 1) := by decide +kernel
theorem dX4_readClause_75 : decode cX4_readClause 75 = .ok (.getfield 28, 3) := by decide +kernel
theorem dX4_readClause_78 : decode cX4_readClause 78 = .ok (.ifCond .eq 19, 3) := by decide +kernel
theorem dX4_readClause_81 : decode cX4_readClause 81 = .ok (.aload_n 0, 1) := by decide +kernel
theorem dX4_readClause_82 : decode cX4_readClause 82 = .ok (.getfield 24, 3) := by decide +kernel
theorem dX4_readClause_85 : decode cX4_readClause 85 = .ok (.getfield 39, 3) := by decide +kernel
theorem dX4_readClause_88 : decode cX4_readClause 88 = .ok (.aload_n 0, 1) := by decide +kernel
theorem dX4_readClause_89 : decode cX4_readClause 89 = .ok (.getfield 14, 3) := by decide +kernel
theorem dX4_readClause_92 : decode cX4_readClause 92 = .ok (.iconst 0, 1) := by decide +kernel
theorem dX4_readClause_93 : decode cX4_readClause 93 = .ok (.invokevirtual 104, 3) := by decide +kernel
theorem dX4_readClause_96 : decode cX4_readClause 96 = .ok (.pop, 1) := by decide +kernel
theorem dX4_readClause_97 : decode cX4_readClause 97 = .ok (.iconst 1, 1) := by decide +kernel
theorem dX4_readClause_98 : decode cX4_readClause 98 = .ok (.ireturn, 1) := by decide +kernel
theorem dX4_readRow_0 : decode cX4_readRow 0 = .ok (.aload_n 0, 1) := by decide +kernel
theorem dX4_readRow_1 : decode cX4_readRow 1 = .ok (.getfield 14, 3) := by decide +kernel
theorem dX4_readRow_4 : decode cX4_readRow 4 = .ok (.invokevirtual 108, 3) := by decide +kernel
theorem dX4_readRow_7 : decode cX4_readRow 7 = .ok (.iconst 0, 1) := by decide +kernel
theorem dX4_readRow_8 : decode cX4_readRow 8 = .ok (.istore_n 2, 1) := by decide +kernel
theorem dX4_readRow_9 : decode cX4_readRow 9 = .ok (.iload_n 2, 1) := by decide +kernel
theorem dX4_readRow_10 : decode cX4_readRow 10 = .ok (.bipush 8, 2) := by decide +kernel
theorem dX4_readRow_12 : decode cX4_readRow 12 = .ok (.if_icmp .gt 73, 3) := by decide +kernel
theorem dX4_readRow_15 : decode cX4_readRow 15 = .ok (.aload_n 0, 1) := by decide +kernel
theorem dX4_readRow_16 : decode cX4_readRow 16 = .ok (.getfield 20, 3) := by decide +kernel
theorem dX4_readRow_19 : decode cX4_readRow 19 = .ok (.getfield 60, 3) := by decide +kernel
theorem dX4_readRow_22 : decode cX4_readRow 22 = .ok (.bipush (-2), 2) := by decide +kernel
theorem dX4_readRow_24 : decode cX4_readRow 24 = .ok (.if_icmp .eq 61, 3) := by decide +kernel
theorem dX4_readRow_27 : decode cX4_readRow 27 = .ok (.aload_n 0, 1) := by decide +kernel
theorem dX4_readRow_28 : decode cX4_readRow 28 = .ok (.getfield 20, 3) := by decide +kernel
theorem dX4_readRow_31 : decode cX4_readRow 31 = .ok (.aload_n 0, 1) := by decide +kernel
theorem dX4_readRow_32 : decode cX4_readRow 32 = .ok (.getfield 38, 3) := by decide +kernel
theorem dX4_readRow_35 : decode cX4_readRow 35 = .ok (.aload_n 0, 1) := by decide +kernel
theorem dX4_readRow_36 : decode cX4_readRow 36 = .ok (.getfield 14, 3) := by decide +kernel
theorem dX4_readRow_39 : decode cX4_readRow 39 = .ok (.getfield 111, 3) := by decide +kernel
theorem dX4_readRow_42 : decode cX4_readRow 42 = .ok (.iload_n 1, 1) := by decide +kernel
theorem dX4_readRow_43 : decode cX4_readRow 43 = .ok (.ifCond .ne 13, 3) := by decide +kernel
theorem dX4_readRow_46 : decode cX4_readRow 46 = .ok (.aload_n 0, 1) := by decide +kernel
theorem dX4_readRow_47 : decode cX4_readRow 47 = .ok (.getfield 14, 3) := by decide +kernel
theorem dX4_readRow_50 : decode cX4_readRow 50 = .ok (.invokevirtual 112, 3) := by decide +kernel
theorem dX4_readRow_53 : decode cX4_readRow 53 = .ok (.ifCond .eq 7, 3) := by decide +kernel
theorem dX4_readRow_56 : decode cX4_readRow 56 = .ok (.iconst 1, 1) := by decide +kernel
theorem dX4_readRow_57 : decode cX4_readRow 57 = .ok (.goto 4, 3) := by decide +kernel
theorem dX4_readRow_60 : decode cX4_readRow 60 = .ok (.iconst 0, 1) := by decide +kernel
theorem dX4_readRow_61 : decode cX4_readRow 61 = .ok (.invokevirtual 97, 3) := by decide +kernel
theorem dX4_readRow_64 : decode cX4_readRow 64 = .ok (.istore_n 3, 1) := by decide +kernel
theorem dX4_readRow_65 : decode cX4_readRow 65 = .ok (.iload_n 3, 1) := by decide +kernel
theorem dX4_readRow_66 : decode cX4_readRow 66 = .ok (.ifCond .ne 5, 3) := by decide +kernel
theorem dX4_readRow_69 : decode cX4_readRow 69 = .ok (.iconst 0, 1) := by decide +kernel
theorem dX4_readRow_70 : decode cX4_readRow 70 = .ok (.ireturn, 1) := by decide +kernel
theorem dX4_readRow_71 : decode cX4_readRow 71 = .ok (.aload_n 0, 1) := by decide +kernel
theorem dX4_readRow_72 : decode cX4_readRow 72 = .ok (.getfield 14, 3) := by decide +kernel
theorem dX4_readRow_75 : decode cX4_readRow 75 = .ok (.iload_n 3, 1) := by decide +kernel
theorem dX4_readRow_76 : decode cX4_readRow 76 = .ok (.invokevirtual 115, 3) := by decide +kernel
theorem dX4_readRow_79 : decode cX4_readRow 79 = .ok (.iinc 2 1, 3) := by decide +kernel
theorem dX4_readRow_82 : decode cX4_readRow 82 = .ok (.goto (-73), 3) := by decide +kernel
theorem dX4_readRow_85 : decode cX4_readRow 85 = .ok (.iconst 1, 1) := by decide +kernel
theorem dX4_readRow_86 : decode cX4_readRow 86 = .ok (.ireturn, 1) := by decide +kernel
theorem dX5_init_0 : decode cX5_init 0 = .ok (.aload_n 0, 1) := by decide +kernel
theorem dX5_init_1 : decode cX5_init 1 = .ok (.invokespecial 3, 3) := by decide +kernel
theorem dX5_init_4 : decode cX5_init 4 = .ok (.aload_n 0, 1) := by decide +kernel
theorem dX5_init_5 : decode cX5_init 5 = .ok (.sipush 400, 3) := by decide +kernel
theorem dX5_init_8 : decode cX5_init 8 = .ok (.newarray .int, 2) := by decide +kernel
theorem dX5_init_10 : decode cX5_init 10 = .ok (.putfield 9, 3) := by decide +kernel
theorem dX5_init_13 : decode cX5_init 13 = .ok (.aload_n 0, 1) := by decide +kernel
theorem dX5_init_14 : decode cX5_init 14 = .ok (.sipush 400, 3) := by decide +kernel
theorem dX5_init_17 : decode cX5_init 17 = .ok (.newarray .int, 2) := by decide +kernel
theorem dX5_init_19 : decode cX5_init 19 = .ok (.putfield 15, 3) := by decide +kernel
theorem dX5_init_22 : decode cX5_init 22 = .ok (.aload_n 0, 1) := by decide +kernel
theorem dX5_init_23 : decode cX5_init 23 = .ok (.sipush 400, 3) := by decide +kernel
theorem dX5_init_26 : decode cX5_init 26 = .ok (.newarray .byte, 2) := by decide +kernel
theorem dX5_init_28 : decode cX5_init 28 = .ok (.putfield 18, 3) := by decide +kernel
theorem dX5_init_31 : decode cX5_init 31 = .ok (.aload_n 0, 1) := by decide +kernel
theorem dX5_init_32 : decode cX5_init 32 = .ok (.sipush 401, 3) := by decide +kernel
theorem dX5_init_35 : decode cX5_init 35 = .ok (.newarray .int, 2) := by decide +kernel
theorem dX5_init_37 : decode cX5_init 37 = .ok (.putfield 22, 3) := by decide +kernel
theorem dX5_init_40 : decode cX5_init 40 = .ok (.aload_n 0, 1) := by decide +kernel
theorem dX5_init_41 : decode cX5_init 41 = .ok (.sipush 512, 3) := by decide +kernel
theorem dX5_init_44 : decode cX5_init 44 = .ok (.newarray .int, 2) := by decide +kernel
theorem dX5_init_46 : decode cX5_init 46 = .ok (.putfield 25, 3) := by decide +kernel
theorem dX5_init_49 : decode cX5_init 49 = .ok (.return_, 1) := by decide +kernel
theorem dX5_isFull_0 : decode cX5_isFull 0 = .ok (.aload_n 0, 1) := by decide +kernel
theorem dX5_isFull_1 : decode cX5_isFull 1 = .ok (.getfield 28, 3) := by decide +kernel
theorem dX5_isFull_4 : decode cX5_isFull 4 = .ok (.sipush 400, 3) := by decide +kernel
theorem dX5_isFull_7 : decode cX5_isFull 7 = .ok (.if_icmp .lt 7, 3) := by decide +kernel
theorem dX5_isFull_10 : decode cX5_isFull 10 = .ok (.iconst 1, 1) := by decide +kernel
theorem dX5_isFull_11 : decode cX5_isFull 11 = .ok (.goto 4, 3) := by decide +kernel
theorem dX5_isFull_14 : decode cX5_isFull 14 = .ok (.iconst 0, 1) := by decide +kernel
theorem dX5_isFull_15 : decode cX5_isFull 15 = .ok (.ireturn, 1) := by decide +kernel
theorem dX5_isFullForTold_0 : decode cX5_isFullForTold 0 = .ok (.aload_n 0, 1) := by decide +kernel
theorem dX5_isFullForTold_1 : decode cX5_isFullForTold 1 = .ok (.getfield 32, 3) := by decide +kernel
theorem dX5_isFullForTold_4 : decode cX5_isFullForTold 4 = .ok (.bipush 80, 2) := by decide +kernel
theorem dX5_isFullForTold_6 : decode cX5_isFullForTold 6 = .ok (.if_icmp .ge 10, 3) := by decide +kernel
theorem dX5_isFullForTold_9 : decode cX5_isFullForTold 9 = .ok (.aload_n 0, 1) := by decide +kernel
theorem dX5_isFullForTold_10 : decode cX5_isFullForTold 10 = .ok (.invokevirtual 35, 3) := by decide +kernel
theorem dX5_isFullForTold_13 : decode cX5_isFullForTold 13 = .ok (.ifCond .eq 7, 3) := by decide +kernel
theorem dX5_isFullForTold_16 : decode cX5_isFullForTold 16 = .ok (.iconst 1, 1) := by decide +kernel
theorem dX5_isFullForTold_17 : decode cX5_isFullForTold 17 = .ok (.goto 4, 3) := by decide +kernel
theorem dX5_isFullForTold_20 : decode cX5_isFullForTold 20 = .ok (.iconst 0, 1) := by decide +kernel
theorem dX5_isFullForTold_21 : decode cX5_isFullForTold 21 = .ok (.ireturn, 1) := by decide +kernel
theorem dX5_append_0 : decode cX5_append 0 = .ok (.aload_n 0, 1) := by decide +kernel
theorem dX5_append_1 : decode cX5_append 1 = .ok (.invokevirtual 35, 3) := by decide +kernel
theorem dX5_append_4 : decode cX5_append 4 = .ok (.ifCond .eq 5, 3) := by decide +kernel
theorem dX5_append_7 : decode cX5_append 7 = .ok (.iconst (-1), 1) := by decide +kernel
theorem dX5_append_8 : decode cX5_append 8 = .ok (.ireturn, 1) := by decide +kernel
theorem dX5_append_9 : decode cX5_append 9 = .ok (.aload_n 0, 1) := by decide +kernel
theorem dX5_append_10 : decode cX5_append 10 = .ok (.getfield 22, 3) := by decide +kernel
theorem dX5_append_13 : decode cX5_append 13 = .ok (.aload_n 0, 1) := by decide +kernel
theorem dX5_append_14 : decode cX5_append 14 = .ok (.getfield 28, 3) := by decide +kernel
theorem dX5_append_17 : decode cX5_append 17 = .ok (.iaload, 1) := by decide +kernel
theorem dX5_append_18 : decode cX5_append 18 = .ok (.istore_n 3, 1) := by decide +kernel
theorem dX5_append_19 : decode cX5_append 19 = .ok (.aload_n 0, 1) := by decide +kernel
theorem dX5_append_20 : decode cX5_append 20 = .ok (.iload_n 3, 1) := by decide +kernel
theorem dX5_append_21 : decode cX5_append 21 = .ok (.aload_n 1, 1) := by decide +kernel
theorem dX5_append_22 : decode cX5_append 22 = .ok (.getfield 39, 3) := by decide +kernel
theorem dX5_append_25 : decode cX5_append 25 = .ok (.iadd, 1) := by decide +kernel
theorem dX5_append_26 : decode cX5_append 26 = .ok (.invokevirtual 44, 3) := by decide +kernel
theorem dX5_append_29 : decode cX5_append 29 = .ok (.aload_n 0, 1) := by decide +kernel
theorem dX5_append_30 : decode cX5_append 30 = .ok (.getfield 9, 3) := by decide +kernel
theorem dX5_append_33 : decode cX5_append 33 = .ok (.aload_n 0, 1) := by decide +kernel
theorem dX5_append_34 : decode cX5_append 34 = .ok (.getfield 28, 3) := by decide +kernel
theorem dX5_append_37 : decode cX5_append 37 = .ok (.iconst 0, 1) := by decide +kernel
theorem dX5_append_38 : decode cX5_append 38 = .ok (.iastore, 1) := by decide +kernel
theorem dX5_append_39 : decode cX5_append 39 = .ok (.aload_n 0, 1) := by decide +kernel
theorem dX5_append_40 : decode cX5_append 40 = .ok (.getfield 15, 3) := by decide +kernel
theorem dX5_append_43 : decode cX5_append 43 = .ok (.aload_n 0, 1) := by decide +kernel
theorem dX5_append_44 : decode cX5_append 44 = .ok (.getfield 28, 3) := by decide +kernel
theorem dX5_append_47 : decode cX5_append 47 = .ok (.iconst 0, 1) := by decide +kernel
theorem dX5_append_48 : decode cX5_append 48 = .ok (.iastore, 1) := by decide +kernel
theorem dX5_append_49 : decode cX5_append 49 = .ok (.iconst 0, 1) := by decide +kernel
theorem dX5_append_50 : decode cX5_append 50 = .ok (.istore 4, 2) := by decide +kernel
theorem dX5_append_52 : decode cX5_append 52 = .ok (.iload 4, 2) := by decide +kernel
theorem dX5_append_54 : decode cX5_append 54 = .ok (.aload_n 1, 1) := by decide +kernel
theorem dX5_append_55 : decode cX5_append 55 = .ok (.getfield 39, 3) := by decide +kernel
theorem dX5_append_58 : decode cX5_append 58 = .ok (.if_icmp .ge 71, 3) := by decide +kernel
theorem dX5_append_61 : decode cX5_append 61 = .ok (.aload_n 1, 1) := by decide +kernel
theorem dX5_append_62 : decode cX5_append 62 = .ok (.getfield 48, 3) := by decide +kernel
theorem dX5_append_65 : decode cX5_append 65 = .ok (.iload 4, 2) := by decide +kernel
theorem dX5_append_67 : decode cX5_append 67 = .ok (.iaload, 1) := by decide +kernel
theorem dX5_append_68 : decode cX5_append 68 = .ok (.istore 5, 2) := by decide +kernel
theorem dX5_append_70 : decode cX5_append 70 = .ok (.aload_n 0, 1) := by decide +kernel
theorem dX5_append_71 : decode cX5_append 71 = .ok (.getfield 25, 3) := by decide +kernel
theorem dX5_append_74 : decode cX5_append 74 = .ok (.iload_n 3, 1) := by decide +kernel
theorem dX5_append_75 : decode cX5_append 75 = .ok (.iload 4, 2) := by decide +kernel
theorem dX5_append_77 : decode cX5_append 77 = .ok (.iadd, 1) := by decide +kernel
theorem dX5_append_78 : decode cX5_append 78 = .ok (.iload 5, 2) := by decide +kernel
theorem dX5_append_80 : decode cX5_append 80 = .ok (.iastore, 1) := by decide +kernel
theorem dX5_append_81 : decode cX5_append 81 = .ok (.iload 5, 2) := by decide +kernel
theorem dX5_append_83 : decode cX5_append 83 = .ok (.ifCond .le 23, 3) := by decide +kernel
theorem dX5_append_86 : decode cX5_append 86 = .ok (.aload_n 0, 1) := by decide +kernel
theorem dX5_append_87 : decode cX5_append 87 = .ok (.getfield 9, 3) := by decide +kernel
theorem dX5_append_90 : decode cX5_append 90 = .ok (.aload_n 0, 1) := by decide +kernel
theorem dX5_append_91 : decode cX5_append 91 = .ok (.getfield 28, 3) := by decide +kernel
theorem dX5_append_94 : decode cX5_append 94 = .ok (.dup2, 1) := by decide +kernel
theorem dX5_append_95 : decode cX5_append 95 = .ok (.iaload, 1) := by decide +kernel
theorem dX5_append_96 : decode cX5_append 96 = .ok (.iload 5, 2) := by decide +kernel
theorem dX5_append_98 : decode cX5_append 98 = .ok (.invokestatic 49, 3) := by decide +kernel
theorem dX5_append_101 : decode cX5_append 101 = .ok (.ior, 1) := by decide +kernel
theorem dX5_append_102 : decode cX5_append 102 = .ok (.iastore, 1) := by decide +kernel
theorem dX5_append_103 : decode cX5_append 103 = .ok (.goto 20, 3) := by decide +kernel
theorem dX5_append_106 : decode cX5_append 106 = .ok (.aload_n 0, 1) := by decide +kernel
theorem dX5_append_107 : decode cX5_append 107 = .ok (.getfield 15, 3) := by decide +kernel
theorem dX5_append_110 : decode cX5_append 110 = .ok (.aload_n 0, 1) := by decide +kernel
theorem dX5_append_111 : decode cX5_append 111 = .ok (.getfield 28, 3) := by decide +kernel
theorem dX5_append_114 : decode cX5_append 114 = .ok (.dup2, 1) := by decide +kernel
theorem dX5_append_115 : decode cX5_append 115 = .ok (.iaload, 1) := by decide +kernel
theorem dX5_append_116 : decode cX5_append 116 = .ok (.iload 5, 2) := by decide +kernel
theorem dX5_append_118 : decode cX5_append 118 = .ok (.invokestatic 49, 3) := by decide +kernel
theorem dX5_append_121 : decode cX5_append 121 = .ok (.ior, 1) := by decide +kernel
theorem dX5_append_122 : decode cX5_append 122 = .ok (.iastore, 1) := by decide +kernel
theorem dX5_append_123 : decode cX5_append 123 = .ok (.iinc 4 1, 3) := by decide +kernel
theorem dX5_append_126 : decode cX5_append 126 = .ok (.goto (-74), 3) := by decide +kernel
theorem dX5_append_129 : decode cX5_append 129 = .ok (.aload_n 0, 1) := by decide +kernel
theorem dX5_append_130 : decode cX5_append 130 = .ok (.getfield 18, 3) := by decide +kernel
theorem dX5_append_133 : decode cX5_append 133 = .ok (.aload_n 0, 1) := by decide +kernel
theorem dX5_append_134 : decode cX5_append 134 = .ok (.getfield 28, 3) := by decide +kernel
theorem dX5_append_137 : decode cX5_append 137 = .ok (.iload_n 2, 1) := by decide +kernel
theorem dX5_append_138 : decode cX5_append 138 = .ok (.ifCond .eq 7, 3) := by decide +kernel
theorem dX5_append_141 : decode cX5_append 141 = .ok (.iconst 1, 1) := by decide +kernel
theorem dX5_append_142 : decode cX5_append 142 = .ok (.goto 4, 3) := by decide +kernel
theorem dX5_append_145 : decode cX5_append 145 = .ok (.iconst 0, 1) := by decide +kernel
theorem dX5_append_146 : decode cX5_append 146 = .ok (.i2b, 1) := by decide +kernel
theorem dX5_append_147 : decode cX5_append 147 = .ok (.bastore, 1) := by decide +kernel
theorem dX5_append_148 : decode cX5_append 148 = .ok (.aload_n 0, 1) := by decide +kernel
theorem dX5_append_149 : decode cX5_append 149 = .ok (.dup, 1) := by decide +kernel
theorem dX5_append_150 : decode cX5_append 150 = .ok (.getfield 32, 3) := by decide +kernel
theorem dX5_append_153 : decode cX5_append 153 = .ok (.iload_n 2, 1) := by decide +kernel
theorem dX5_append_154 : decode cX5_append 154 = .ok (.ifCond .eq 7, 3) := by decide +kernel
theorem dX5_append_157 : decode cX5_append 157 = .ok (.iconst 0, 1) := by decide +kernel
theorem dX5_append_158 : decode cX5_append 158 = .ok (.goto 4, 3) := by decide +kernel
theorem dX5_append_161 : decode cX5_append 161 = .ok (.iconst 1, 1) := by decide +kernel
theorem dX5_append_162 : decode cX5_append 162 = .ok (.iadd, 1) := by decide +kernel
theorem dX5_append_163 : decode cX5_append 163 = .ok (.putfield 32, 3) := by decide +kernel
theorem dX5_append_166 : decode cX5_append 166 = .ok (.aload_n 0, 1) := by decide +kernel
theorem dX5_append_167 : decode cX5_append 167 = .ok (.dup, 1) := by decide +kernel
theorem dX5_append_168 : decode cX5_append 168 = .ok (.getfield 28, 3) := by decide +kernel
theorem dX5_append_171 : decode cX5_append 171 = .ok (.iconst 1, 1) := by decide +kernel
theorem dX5_append_172 : decode cX5_append 172 = .ok (.iadd, 1) := by decide +kernel
theorem dX5_append_173 : decode cX5_append 173 = .ok (.putfield 28, 3) := by decide +kernel
theorem dX5_append_176 : decode cX5_append 176 = .ok (.aload_n 0, 1) := by decide +kernel
theorem dX5_append_177 : decode cX5_append 177 = .ok (.getfield 22, 3) := by decide +kernel
theorem dX5_append_180 : decode cX5_append 180 = .ok (.aload_n 0, 1) := by decide +kernel
theorem dX5_append_181 : decode cX5_append 181 = .ok (.getfield 28, 3) := by decide +kernel
theorem dX5_append_184 : decode cX5_append 184 = .ok (.iload_n 3, 1) := by decide +kernel
theorem dX5_append_185 : decode cX5_append 185 = .ok (.aload_n 1, 1) := by decide +kernel
theorem dX5_append_186 : decode cX5_append 186 = .ok (.getfield 39, 3) := by decide +kernel
theorem dX5_append_189 : decode cX5_append 189 = .ok (.iadd, 1) := by decide +kernel
theorem dX5_append_190 : decode cX5_append 190 = .ok (.iastore, 1) := by decide +kernel
theorem dX5_append_191 : decode cX5_append 191 = .ok (.aload_n 0, 1) := by decide +kernel
theorem dX5_append_192 : decode cX5_append 192 = .ok (.getfield 28, 3) := by decide +kernel
theorem dX5_append_195 : decode cX5_append 195 = .ok (.iconst 1, 1) := by decide +kernel
theorem dX5_append_196 : decode cX5_append 196 = .ok (.isub, 1) := by decide +kernel
theorem dX5_append_197 : decode cX5_append 197 = .ok (.ireturn, 1) := by decide +kernel
theorem dX5_makeRoom_0 : decode cX5_makeRoom 0 = .ok (.iload_n 1, 1) := by decide +kernel
theorem dX5_makeRoom_1 : decode cX5_makeRoom 1 = .ok (.aload_n 0, 1) := by decide +kernel
theorem dX5_makeRoom_2 : decode cX5_makeRoom 2 = .ok (.getfield 25, 3) := by decide +kernel
theorem dX5_makeRoom_5 : decode cX5_makeRoom 5 = .ok (.arraylength, 1) := by decide +kernel
theorem dX5_makeRoom_6 : decode cX5_makeRoom 6 = .ok (.if_icmp .le 25, 3) := by decide +kernel
theorem dX5_makeRoom_9 : decode cX5_makeRoom 9 = .ok (.aload_n 0, 1) := by decide +kernel
theorem dX5_makeRoom_10 : decode cX5_makeRoom 10 = .ok (.aload_n 0, 1) := by decide +kernel
theorem dX5_makeRoom_11 : decode cX5_makeRoom 11 = .ok (.getfield 25, 3) := by decide +kernel
theorem dX5_makeRoom_14 : decode cX5_makeRoom 14 = .ok (.iload_n 1, 1) := by decide +kernel
theorem dX5_makeRoom_15 : decode cX5_makeRoom 15 = .ok (.iconst 2, 1) := by decide +kernel
theorem dX5_makeRoom_16 : decode cX5_makeRoom 16 = .ok (.aload_n 0, 1) := by decide +kernel
theorem dX5_makeRoom_17 : decode cX5_makeRoom 17 = .ok (.getfield 25, 3) := by decide +kernel
theorem dX5_makeRoom_20 : decode cX5_makeRoom 20 = .ok (.arraylength, 1) := by decide +kernel
theorem dX5_makeRoom_21 : decode cX5_makeRoom 21 = .ok (.imul, 1) := by decide +kernel
theorem dX5_makeRoom_22 : decode cX5_makeRoom 22 = .ok (.invokestatic 53, 3) := by decide +kernel
theorem dX5_makeRoom_25 : decode cX5_makeRoom 25 = .ok (.invokestatic 59, 3) := by decide +kernel
theorem dX5_makeRoom_28 : decode cX5_makeRoom 28 = .ok (.putfield 25, 3) := by decide +kernel
theorem dX5_makeRoom_31 : decode cX5_makeRoom 31 = .ok (.return_, 1) := by decide +kernel
theorem dX5_lengthOf_0 : decode cX5_lengthOf 0 = .ok (.aload_n 0, 1) := by decide +kernel
theorem dX5_lengthOf_1 : decode cX5_lengthOf 1 = .ok (.getfield 22, 3) := by decide +kernel
theorem dX5_lengthOf_4 : decode cX5_lengthOf 4 = .ok (.iload_n 1, 1) := by decide +kernel
theorem dX5_lengthOf_5 : decode cX5_lengthOf 5 = .ok (.iconst 1, 1) := by decide +kernel
theorem dX5_lengthOf_6 : decode cX5_lengthOf 6 = .ok (.iadd, 1) := by decide +kernel
theorem dX5_lengthOf_7 : decode cX5_lengthOf 7 = .ok (.iaload, 1) := by decide +kernel
theorem dX5_lengthOf_8 : decode cX5_lengthOf 8 = .ok (.aload_n 0, 1) := by decide +kernel
theorem dX5_lengthOf_9 : decode cX5_lengthOf 9 = .ok (.getfield 22, 3) := by decide +kernel
theorem dX5_lengthOf_12 : decode cX5_lengthOf 12 = .ok (.iload_n 1, 1) := by decide +kernel
theorem dX5_lengthOf_13 : decode cX5_lengthOf 13 = .ok (.iaload, 1) := by decide +kernel
theorem dX5_lengthOf_14 : decode cX5_lengthOf 14 = .ok (.isub, 1) := by decide +kernel
theorem dX5_lengthOf_15 : decode cX5_lengthOf 15 = .ok (.ireturn, 1) := by decide +kernel
theorem dX5_literalOf_0 : decode cX5_literalOf 0 = .ok (.aload_n 0, 1) := by decide +kernel
theorem dX5_literalOf_1 : decode cX5_literalOf 1 = .ok (.getfield 25, 3) := by decide +kernel
theorem dX5_literalOf_4 : decode cX5_literalOf 4 = .ok (.aload_n 0, 1) := by decide +kernel
theorem dX5_literalOf_5 : decode cX5_literalOf 5 = .ok (.getfield 22, 3) := by decide +kernel
theorem dX5_literalOf_8 : decode cX5_literalOf 8 = .ok (.iload_n 1, 1) := by decide +kernel
theorem dX5_literalOf_9 : decode cX5_literalOf 9 = .ok (.iaload, 1) := by decide +kernel
theorem dX5_literalOf_10 : decode cX5_literalOf 10 = .ok (.iload_n 2, 1) := by decide +kernel
theorem dX5_literalOf_11 : decode cX5_literalOf 11 = .ok (.iadd, 1) := by decide +kernel
theorem dX5_literalOf_12 : decode cX5_literalOf 12 = .ok (.iaload, 1) := by decide +kernel
theorem dX5_literalOf_13 : decode cX5_literalOf 13 = .ok (.ireturn, 1) := by decide +kernel
theorem dX5_variablesOf_0 : decode cX5_variablesOf 0 = .ok (.aload_n 0, 1) := by decide +kernel
theorem dX5_variablesOf_1 : decode cX5_variablesOf 1 = .ok (.getfield 9, 3) := by decide +kernel
theorem dX5_variablesOf_4 : decode cX5_variablesOf 4 = .ok (.iload_n 1, 1) := by decide +kernel
theorem dX5_variablesOf_5 : decode cX5_variablesOf 5 = .ok (.iaload, 1) := by decide +kernel
theorem dX5_variablesOf_6 : decode cX5_variablesOf 6 = .ok (.aload_n 0, 1) := by decide +kernel
theorem dX5_variablesOf_7 : decode cX5_variablesOf 7 = .ok (.getfield 15, 3) := by decide +kernel
theorem dX5_variablesOf_10 : decode cX5_variablesOf 10 = .ok (.iload_n 1, 1) := by decide +kernel
theorem dX5_variablesOf_11 : decode cX5_variablesOf 11 = .ok (.iaload, 1) := by decide +kernel
theorem dX5_variablesOf_12 : decode cX5_variablesOf 12 = .ok (.ior, 1) := by decide +kernel
theorem dX5_variablesOf_13 : decode cX5_variablesOf 13 = .ok (.ireturn, 1) := by decide +kernel
theorem dX5_isLearnt_0 : decode cX5_isLearnt 0 = .ok (.aload_n 0, 1) := by decide +kernel
theorem dX5_isLearnt_1 : decode cX5_isLearnt 1 = .ok (.getfield 18, 3) := by decide +kernel
theorem dX5_isLearnt_4 : decode cX5_isLearnt 4 = .ok (.iload_n 1, 1) := by decide +kernel
theorem dX5_isLearnt_5 : decode cX5_isLearnt 5 = .ok (.baload, 1) := by decide +kernel
theorem dX5_isLearnt_6 : decode cX5_isLearnt 6 = .ok (.ifCond .eq 7, 3) := by decide +kernel
theorem dX5_isLearnt_9 : decode cX5_isLearnt 9 = .ok (.iconst 1, 1) := by decide +kernel
theorem dX5_isLearnt_10 : decode cX5_isLearnt 10 = .ok (.goto 4, 3) := by decide +kernel
theorem dX5_isLearnt_13 : decode cX5_isLearnt 13 = .ok (.iconst 0, 1) := by decide +kernel
theorem dX5_isLearnt_14 : decode cX5_isLearnt 14 = .ok (.ireturn, 1) := by decide +kernel
theorem dX5_isGone_0 : decode cX5_isGone 0 = .ok (.aload_n 0, 1) := by decide +kernel
theorem dX5_isGone_1 : decode cX5_isGone 1 = .ok (.getfield 18, 3) := by decide +kernel
theorem dX5_isGone_4 : decode cX5_isGone 4 = .ok (.iload_n 1, 1) := by decide +kernel
theorem dX5_isGone_5 : decode cX5_isGone 5 = .ok (.baload, 1) := by decide +kernel
theorem dX5_isGone_6 : decode cX5_isGone 6 = .ok (.iconst 2, 1) := by decide +kernel
theorem dX5_isGone_7 : decode cX5_isGone 7 = .ok (.if_icmp .ne 7, 3) := by decide +kernel
theorem dX5_isGone_10 : decode cX5_isGone 10 = .ok (.iconst 1, 1) := by decide +kernel
theorem dX5_isGone_11 : decode cX5_isGone 11 = .ok (.goto 4, 3) := by decide +kernel
theorem dX5_isGone_14 : decode cX5_isGone 14 = .ok (.iconst 0, 1) := by decide +kernel
theorem dX5_isGone_15 : decode cX5_isGone 15 = .ok (.ireturn, 1) := by decide +kernel
theorem dX5_learntEver_0 : decode cX5_learntEver 0 = .ok (.aload_n 0, 1) := by decide +kernel
theorem dX5_learntEver_1 : decode cX5_learntEver 1 = .ok (.getfield 28, 3) := by decide +kernel
theorem dX5_learntEver_4 : decode cX5_learntEver 4 = .ok (.aload_n 0, 1) := by decide +kernel
theorem dX5_learntEver_5 : decode cX5_learntEver 5 = .ok (.getfield 32, 3) := by decide +kernel
theorem dX5_learntEver_8 : decode cX5_learntEver 8 = .ok (.isub, 1) := by decide +kernel
theorem dX5_learntEver_9 : decode cX5_learntEver 9 = .ok (.ireturn, 1) := by decide +kernel
theorem dX5_learntLeft_0 : decode cX5_learntLeft 0 = .ok (.iconst 0, 1) := by decide +kernel
theorem dX5_learntLeft_1 : decode cX5_learntLeft 1 = .ok (.istore_n 1, 1) := by decide +kernel
theorem dX5_learntLeft_2 : decode cX5_learntLeft 2 = .ok (.iconst 0, 1) := by decide +kernel
theorem dX5_learntLeft_3 : decode cX5_learntLeft 3 = .ok (.istore_n 2, 1) := by decide +kernel
theorem dX5_learntLeft_4 : decode cX5_learntLeft 4 = .ok (.iload_n 2, 1) := by decide +kernel
theorem dX5_learntLeft_5 : decode cX5_learntLeft 5 = .ok (.aload_n 0, 1) := by decide +kernel
theorem dX5_learntLeft_6 : decode cX5_learntLeft 6 = .ok (.getfield 28, 3) := by decide +kernel
theorem dX5_learntLeft_9 : decode cX5_learntLeft 9 = .ok (.if_icmp .ge 27, 3) := by decide +kernel
theorem dX5_learntLeft_12 : decode cX5_learntLeft 12 = .ok (.iload_n 1, 1) := by decide +kernel
theorem dX5_learntLeft_13 : decode cX5_learntLeft 13 = .ok (.aload_n 0, 1) := by decide +kernel
theorem dX5_learntLeft_14 : decode cX5_learntLeft 14 = .ok (.getfield 18, 3) := by decide +kernel
theorem dX5_learntLeft_17 : decode cX5_learntLeft 17 = .ok (.iload_n 2, 1) := by decide +kernel
theorem dX5_learntLeft_18 : decode cX5_learntLeft 18 = .ok (.baload, 1) := by decide +kernel
theorem dX5_learntLeft_19 : decode cX5_learntLeft 19 = .ok (.iconst 1, 1) := by decide +kernel
theorem dX5_learntLeft_20 : decode cX5_learntLeft 20 = .ok (.if_icmp .ne 7, 3) := by decide +kernel
theorem dX5_learntLeft_23 : decode cX5_learntLeft 23 = .ok (.iconst 1, 1) := by decide +kernel
theorem dX5_learntLeft_24 : decode cX5_learntLeft 24 = .ok (.goto 4, 3) := by decide +kernel
theorem dX5_learntLeft_27 : decode cX5_learntLeft 27 = .ok (.iconst 0, 1) := by decide +kernel
theorem dX5_learntLeft_28 : decode cX5_learntLeft 28 = .ok (.iadd, 1) := by decide +kernel
theorem dX5_learntLeft_29 : decode cX5_learntLeft 29 = .ok (.istore_n 1, 1) := by decide +kernel
theorem dX5_learntLeft_30 : decode cX5_learntLeft 30 = .ok (.iinc 2 1, 3) := by decide +kernel
theorem dX5_learntLeft_33 : decode cX5_learntLeft 33 = .ok (.goto (-29), 3) := by decide +kernel
theorem dX5_learntLeft_36 : decode cX5_learntLeft 36 = .ok (.iload_n 1, 1) := by decide +kernel
theorem dX5_learntLeft_37 : decode cX5_learntLeft 37 = .ok (.ireturn, 1) := by decide +kernel
theorem dX5_learntAt_0 : decode cX5_learntAt 0 = .ok (.iconst 0, 1) := by decide +kernel
theorem dX5_learntAt_1 : decode cX5_learntAt 1 = .ok (.istore_n 2, 1) := by decide +kernel
theorem dX5_learntAt_2 : decode cX5_learntAt 2 = .ok (.iconst 0, 1) := by decide +kernel
theorem dX5_learntAt_3 : decode cX5_learntAt 3 = .ok (.istore_n 3, 1) := by decide +kernel
theorem dX5_learntAt_4 : decode cX5_learntAt 4 = .ok (.iload_n 3, 1) := by decide +kernel
theorem dX5_learntAt_5 : decode cX5_learntAt 5 = .ok (.aload_n 0, 1) := by decide +kernel
theorem dX5_learntAt_6 : decode cX5_learntAt 6 = .ok (.getfield 28, 3) := by decide +kernel
theorem dX5_learntAt_9 : decode cX5_learntAt 9 = .ok (.if_icmp .ge 30, 3) := by decide +kernel
theorem dX5_learntAt_12 : decode cX5_learntAt 12 = .ok (.aload_n 0, 1) := by decide +kernel
theorem dX5_learntAt_13 : decode cX5_learntAt 13 = .ok (.iload_n 3, 1) := by decide +kernel
theorem dX5_learntAt_14 : decode cX5_learntAt 14 = .ok (.invokevirtual 65, 3) := by decide +kernel
theorem dX5_learntAt_17 : decode cX5_learntAt 17 = .ok (.ifCond .ne 6, 3) := by decide +kernel
theorem dX5_learntAt_20 : decode cX5_learntAt 20 = .ok (.goto 13, 3) := by decide +kernel
theorem dX5_learntAt_23 : decode cX5_learntAt 23 = .ok (.iload_n 2, 1) := by decide +kernel
theorem dX5_learntAt_24 : decode cX5_learntAt 24 = .ok (.iload_n 1, 1) := by decide +kernel
theorem dX5_learntAt_25 : decode cX5_learntAt 25 = .ok (.if_icmp .ne 5, 3) := by decide +kernel
theorem dX5_learntAt_28 : decode cX5_learntAt 28 = .ok (.iload_n 3, 1) := by decide +kernel
theorem dX5_learntAt_29 : decode cX5_learntAt 29 = .ok (.ireturn, 1) := by decide +kernel
theorem dX5_learntAt_30 : decode cX5_learntAt 30 = .ok (.iinc 2 1, 3) := by decide +kernel
theorem dX5_learntAt_33 : decode cX5_learntAt 33 = .ok (.iinc 3 1, 3) := by decide +kernel
theorem dX5_learntAt_36 : decode cX5_learntAt 36 = .ok (.goto (-32), 3) := by decide +kernel
theorem dX5_learntAt_39 : decode cX5_learntAt 39 = .ok (.iconst (-1), 1) := by decide +kernel
theorem dX5_learntAt_40 : decode cX5_learntAt 40 = .ok (.ireturn, 1) := by decide +kernel
theorem dX5_dropLongerThan_0 : decode cX5_dropLongerThan 0 = .ok (.iconst 0, 1) := by decide +kernel
theorem dX5_dropLongerThan_1 : decode cX5_dropLongerThan 1 = .ok (.istore_n 2, 1) := by decide +kernel
theorem dX5_dropLongerThan_2 : decode cX5_dropLongerThan 2 = .ok (.iconst 0, 1) := by decide +kernel
theorem dX5_dropLongerThan_3 : decode cX5_dropLongerThan 3 = .ok (.istore_n 3, 1) := by decide +kernel
theorem dX5_dropLongerThan_4 : decode cX5_dropLongerThan 4 = .ok (.iload_n 3, 1) := by decide +kernel
theorem dX5_dropLongerThan_5 : decode cX5_dropLongerThan 5 = .ok (.aload_n 0, 1) := by decide +kernel
theorem dX5_dropLongerThan_6 : decode cX5_dropLongerThan 6 = .ok (.getfield 28, 3) := by decide +kernel
theorem dX5_dropLongerThan_9 : decode cX5_dropLongerThan 9 = .ok (.if_icmp .ge 38, 3) := by decide +kernel
theorem dX5_dropLongerThan_12 : decode cX5_dropLongerThan 12 = .ok (.aload_n 0, 1) := by decide +kernel
theorem dX5_dropLongerThan_13 : decode cX5_dropLongerThan 13 = .ok (.getfield 18, 3) := by decide +kernel
theorem dX5_dropLongerThan_16 : decode cX5_dropLongerThan 16 = .ok (.iload_n 3, 1) := by decide +kernel
theorem dX5_dropLongerThan_17 : decode cX5_dropLongerThan 17 = .ok (.baload, 1) := by decide +kernel
theorem dX5_dropLongerThan_18 : decode cX5_dropLongerThan 18 = .ok (.iconst 1, 1) := by decide +kernel
theorem dX5_dropLongerThan_19 : decode cX5_dropLongerThan 19 = .ok (.if_icmp .ne 22, 3) := by decide +kernel
theorem dX5_dropLongerThan_22 : decode cX5_dropLongerThan 22 = .ok (.aload_n 0, 1) := by decide +kernel
theorem dX5_dropLongerThan_23 : decode cX5_dropLongerThan 23 = .ok (.iload_n 3, 1) := by decide +kernel
theorem dX5_dropLongerThan_24 : decode cX5_dropLongerThan 24 = .ok (.invokevirtual 69, 3) := by decide +kernel
theorem dX5_dropLongerThan_27 : decode cX5_dropLongerThan 27 = .ok (.iload_n 1, 1) := by decide +kernel
theorem dX5_dropLongerThan_28 : decode cX5_dropLongerThan 28 = .ok (.if_icmp .le 13, 3) := by decide +kernel
theorem dX5_dropLongerThan_31 : decode cX5_dropLongerThan 31 = .ok (.aload_n 0, 1) := by decide +kernel
theorem dX5_dropLongerThan_32 : decode cX5_dropLongerThan 32 = .ok (.getfield 18, 3) := by decide +kernel
theorem dX5_dropLongerThan_35 : decode cX5_dropLongerThan 35 = .ok (.iload_n 3, 1) := by decide +kernel
theorem dX5_dropLongerThan_36 : decode cX5_dropLongerThan 36 = .ok (.iconst 2, 1) := by decide +kernel
theorem dX5_dropLongerThan_37 : decode cX5_dropLongerThan 37 = .ok (.bastore, 1) := by decide +kernel
theorem dX5_dropLongerThan_38 : decode cX5_dropLongerThan 38 = .ok (.iinc 2 1, 3) := by decide +kernel
theorem dX5_dropLongerThan_41 : decode cX5_dropLongerThan 41 = .ok (.iinc 3 1, 3) := by decide +kernel
theorem dX5_dropLongerThan_44 : decode cX5_dropLongerThan 44 = .ok (.goto (-40), 3) := by decide +kernel
theorem dX5_dropLongerThan_47 : decode cX5_dropLongerThan 47 = .ok (.iload_n 2, 1) := by decide +kernel
theorem dX5_dropLongerThan_48 : decode cX5_dropLongerThan 48 = .ok (.ireturn, 1) := by decide +kernel
theorem dX5_clausesWith_0 : decode cX5_clausesWith 0 = .ok (.iconst 0, 1) := by decide +kernel
theorem dX5_clausesWith_1 : decode cX5_clausesWith 1 = .ok (.istore_n 2, 1) := by decide +kernel
theorem dX5_clausesWith_2 : decode cX5_clausesWith 2 = .ok (.iconst 0, 1) := by decide +kernel
theorem dX5_clausesWith_3 : decode cX5_clausesWith 3 = .ok (.istore_n 3, 1) := by decide +kernel
theorem dX5_clausesWith_4 : decode cX5_clausesWith 4 = .ok (.iload_n 3, 1) := by decide +kernel
theorem dX5_clausesWith_5 : decode cX5_clausesWith 5 = .ok (.aload_n 0, 1) := by decide +kernel
theorem dX5_clausesWith_6 : decode cX5_clausesWith 6 = .ok (.getfield 28, 3) := by decide +kernel
theorem dX5_clausesWith_9 : decode cX5_clausesWith 9 = .ok (.if_icmp .ge 38, 3) := by decide +kernel
theorem dX5_clausesWith_12 : decode cX5_clausesWith 12 = .ok (.iload_n 2, 1) := by decide +kernel
theorem dX5_clausesWith_13 : decode cX5_clausesWith 13 = .ok (.aload_n 0, 1) := by decide +kernel
theorem dX5_clausesWith_14 : decode cX5_clausesWith 14 = .ok (.iload_n 3, 1) := by decide +kernel
theorem dX5_clausesWith_15 : decode cX5_clausesWith 15 = .ok (.invokevirtual 72, 3) := by decide +kernel
theorem dX5_clausesWith_18 : decode cX5_clausesWith 18 = .ok (.ifCond .ne 20, 3) := by decide +kernel
theorem dX5_clausesWith_21 : decode cX5_clausesWith 21 = .ok (.aload_n 0, 1) := by decide +kernel
theorem dX5_clausesWith_22 : decode cX5_clausesWith 22 = .ok (.iload_n 3, 1) := by decide +kernel
theorem dX5_clausesWith_23 : decode cX5_clausesWith 23 = .ok (.invokevirtual 75, 3) := by decide +kernel
theorem dX5_clausesWith_26 : decode cX5_clausesWith 26 = .ok (.iload_n 1, 1) := by decide +kernel
theorem dX5_clausesWith_27 : decode cX5_clausesWith 27 = .ok (.invokestatic 49, 3) := by decide +kernel
theorem dX5_clausesWith_30 : decode cX5_clausesWith 30 = .ok (.iand, 1) := by decide +kernel
theorem dX5_clausesWith_31 : decode cX5_clausesWith 31 = .ok (.ifCond .eq 7, 3) := by decide +kernel
theorem dX5_clausesWith_34 : decode cX5_clausesWith 34 = .ok (.iconst 1, 1) := by decide +kernel
theorem dX5_clausesWith_35 : decode cX5_clausesWith 35 = .ok (.goto 4, 3) := by decide +kernel
theorem dX5_clausesWith_38 : decode cX5_clausesWith 38 = .ok (.iconst 0, 1) := by decide +kernel
theorem dX5_clausesWith_39 : decode cX5_clausesWith 39 = .ok (.iadd, 1) := by decide +kernel
theorem dX5_clausesWith_40 : decode cX5_clausesWith 40 = .ok (.istore_n 2, 1) := by decide +kernel
theorem dX5_clausesWith_41 : decode cX5_clausesWith 41 = .ok (.iinc 3 1, 3) := by decide +kernel
theorem dX5_clausesWith_44 : decode cX5_clausesWith 44 = .ok (.goto (-40), 3) := by decide +kernel
theorem dX5_clausesWith_47 : decode cX5_clausesWith 47 = .ok (.iload_n 2, 1) := by decide +kernel
theorem dX5_clausesWith_48 : decode cX5_clausesWith 48 = .ok (.ireturn, 1) := by decide +kernel
theorem dX5_copyFrom_0 : decode cX5_copyFrom 0 = .ok (.aload_n 0, 1) := by decide +kernel
theorem dX5_copyFrom_1 : decode cX5_copyFrom 1 = .ok (.aload_n 1, 1) := by decide +kernel
theorem dX5_copyFrom_2 : decode cX5_copyFrom 2 = .ok (.getfield 28, 3) := by decide +kernel
theorem dX5_copyFrom_5 : decode cX5_copyFrom 5 = .ok (.putfield 28, 3) := by decide +kernel
theorem dX5_copyFrom_8 : decode cX5_copyFrom 8 = .ok (.aload_n 0, 1) := by decide +kernel
theorem dX5_copyFrom_9 : decode cX5_copyFrom 9 = .ok (.aload_n 1, 1) := by decide +kernel
theorem dX5_copyFrom_10 : decode cX5_copyFrom 10 = .ok (.getfield 32, 3) := by decide +kernel
theorem dX5_copyFrom_13 : decode cX5_copyFrom 13 = .ok (.putfield 32, 3) := by decide +kernel
theorem dX5_copyFrom_16 : decode cX5_copyFrom 16 = .ok (.aload_n 1, 1) := by decide +kernel
theorem dX5_copyFrom_17 : decode cX5_copyFrom 17 = .ok (.getfield 9, 3) := by decide +kernel
theorem dX5_copyFrom_20 : decode cX5_copyFrom 20 = .ok (.iconst 0, 1) := by decide +kernel
theorem dX5_copyFrom_21 : decode cX5_copyFrom 21 = .ok (.aload_n 0, 1) := by decide +kernel
theorem dX5_copyFrom_22 : decode cX5_copyFrom 22 = .ok (.getfield 9, 3) := by decide +kernel
theorem dX5_copyFrom_25 : decode cX5_copyFrom 25 = .ok (.iconst 0, 1) := by decide +kernel
theorem dX5_copyFrom_26 : decode cX5_copyFrom 26 = .ok (.aload_n 0, 1) := by decide +kernel
theorem dX5_copyFrom_27 : decode cX5_copyFrom 27 = .ok (.getfield 28, 3) := by decide +kernel
theorem dX5_copyFrom_30 : decode cX5_copyFrom 30 = .ok (.invokestatic 78, 3) := by decide +kernel
theorem dX5_copyFrom_33 : decode cX5_copyFrom 33 = .ok (.aload_n 1, 1) := by decide +kernel
theorem dX5_copyFrom_34 : decode cX5_copyFrom 34 = .ok (.getfield 15, 3) := by decide +kernel
theorem dX5_copyFrom_37 : decode cX5_copyFrom 37 = .ok (.iconst 0, 1) := by decide +kernel
theorem dX5_copyFrom_38 : decode cX5_copyFrom 38 = .ok (.aload_n 0, 1) := by decide +kernel
theorem dX5_copyFrom_39 : decode cX5_copyFrom 39 = .ok (.getfield 15, 3) := by decide +kernel
theorem dX5_copyFrom_42 : decode cX5_copyFrom 42 = .ok (.iconst 0, 1) := by decide +kernel
theorem dX5_copyFrom_43 : decode cX5_copyFrom 43 = .ok (.aload_n 0, 1) := by decide +kernel
theorem dX5_copyFrom_44 : decode cX5_copyFrom 44 = .ok (.getfield 28, 3) := by decide +kernel
theorem dX5_copyFrom_47 : decode cX5_copyFrom 47 = .ok (.invokestatic 78, 3) := by decide +kernel
theorem dX5_copyFrom_50 : decode cX5_copyFrom 50 = .ok (.aload_n 1, 1) := by decide +kernel
theorem dX5_copyFrom_51 : decode cX5_copyFrom 51 = .ok (.getfield 18, 3) := by decide +kernel
theorem dX5_copyFrom_54 : decode cX5_copyFrom 54 = .ok (.iconst 0, 1) := by decide +kernel
theorem dX5_copyFrom_55 : decode cX5_copyFrom 55 = .ok (.aload_n 0, 1) := by decide +kernel
theorem dX5_copyFrom_56 : decode cX5_copyFrom 56 = .ok (.getfield 18, 3) := by decide +kernel
theorem dX5_copyFrom_59 : decode cX5_copyFrom 59 = .ok (.iconst 0, 1) := by decide +kernel
theorem dX5_copyFrom_60 : decode cX5_copyFrom 60 = .ok (.aload_n 0, 1) := by decide +kernel
theorem dX5_copyFrom_61 : decode cX5_copyFrom 61 = .ok (.getfield 28, 3) := by decide +kernel
theorem dX5_copyFrom_64 : decode cX5_copyFrom 64 = .ok (.invokestatic 78, 3) := by decide +kernel
theorem dX5_copyFrom_67 : decode cX5_copyFrom 67 = .ok (.aload_n 1, 1) := by decide +kernel
theorem dX5_copyFrom_68 : decode cX5_copyFrom 68 = .ok (.getfield 22, 3) := by decide +kernel
theorem dX5_copyFrom_71 : decode cX5_copyFrom 71 = .ok (.iconst 0, 1) := by decide +kernel
theorem dX5_copyFrom_72 : decode cX5_copyFrom 72 = .ok (.aload_n 0, 1) := by decide +kernel
theorem dX5_copyFrom_73 : decode cX5_copyFrom 73 = .ok (.getfield 22, 3) := by decide +kernel
theorem dX5_copyFrom_76 : decode cX5_copyFrom 76 = .ok (.iconst 0, 1) := by decide +kernel
theorem dX5_copyFrom_77 : decode cX5_copyFrom 77 = .ok (.aload_n 0, 1) := by decide +kernel
theorem dX5_copyFrom_78 : decode cX5_copyFrom 78 = .ok (.getfield 28, 3) := by decide +kernel
theorem dX5_copyFrom_81 : decode cX5_copyFrom 81 = .ok (.iconst 1, 1) := by decide +kernel
theorem dX5_copyFrom_82 : decode cX5_copyFrom 82 = .ok (.iadd, 1) := by decide +kernel
theorem dX5_copyFrom_83 : decode cX5_copyFrom 83 = .ok (.invokestatic 78, 3) := by decide +kernel
theorem dX5_copyFrom_86 : decode cX5_copyFrom 86 = .ok (.aload_n 0, 1) := by decide +kernel
theorem dX5_copyFrom_87 : decode cX5_copyFrom 87 = .ok (.aload_n 0, 1) := by decide +kernel
theorem dX5_copyFrom_88 : decode cX5_copyFrom 88 = .ok (.getfield 22, 3) := by decide +kernel
theorem dX5_copyFrom_91 : decode cX5_copyFrom 91 = .ok (.aload_n 0, 1) := by decide +kernel
theorem dX5_copyFrom_92 : decode cX5_copyFrom 92 = .ok (.getfield 28, 3) := by decide +kernel
theorem dX5_copyFrom_95 : decode cX5_copyFrom 95 = .ok (.iaload, 1) := by decide +kernel
theorem dX5_copyFrom_96 : decode cX5_copyFrom 96 = .ok (.invokevirtual 44, 3) := by decide +kernel
theorem dX5_copyFrom_99 : decode cX5_copyFrom 99 = .ok (.aload_n 1, 1) := by decide +kernel
theorem dX5_copyFrom_100 : decode cX5_copyFrom 100 = .ok (.getfield 25, 3) := by decide +kernel
theorem dX5_copyFrom_103 : decode cX5_copyFrom 103 = .ok (.iconst 0, 1) := by decide +kernel
theorem dX5_copyFrom_104 : decode cX5_copyFrom 104 = .ok (.aload_n 0, 1) := by decide +kernel
theorem dX5_copyFrom_105 : decode cX5_copyFrom 105 = .ok (.getfield 25, 3) := by decide +kernel
theorem dX5_copyFrom_108 : decode cX5_copyFrom 108 = .ok (.iconst 0, 1) := by decide +kernel
theorem dX5_copyFrom_109 : decode cX5_copyFrom 109 = .ok (.aload_n 0, 1) := by decide +kernel
theorem dX5_copyFrom_110 : decode cX5_copyFrom 110 = .ok (.getfield 22, 3) := by decide +kernel
theorem dX5_copyFrom_113 : decode cX5_copyFrom 113 = .ok (.aload_n 0, 1) := by decide +kernel
theorem dX5_copyFrom_114 : decode cX5_copyFrom 114 = .ok (.getfield 28, 3) := by decide +kernel
theorem dX5_copyFrom_117 : decode cX5_copyFrom 117 = .ok (.iaload, 1) := by decide +kernel
theorem dX5_copyFrom_118 : decode cX5_copyFrom 118 = .ok (.invokestatic 78, 3) := by decide +kernel
theorem dX5_copyFrom_121 : decode cX5_copyFrom 121 = .ok (.return_, 1) := by decide +kernel
theorem dX6_init_0 : decode cX6_init 0 = .ok (.aload_n 0, 1) := by decide +kernel
theorem dX6_init_1 : decode cX6_init 1 = .ok (.invokespecial 3, 3) := by decide +kernel
theorem dX6_init_4 : decode cX6_init 4 = .ok (.aload_n 0, 1) := by decide +kernel
theorem dX6_init_5 : decode cX6_init 5 = .ok (.sipush 400, 3) := by decide +kernel
theorem dX6_init_8 : decode cX6_init 8 = .ok (.newarray .byte, 2) := by decide +kernel
theorem dX6_init_10 : decode cX6_init 10 = .ok (.putfield 9, 3) := by decide +kernel
theorem dX6_init_13 : decode cX6_init 13 = .ok (.aload_n 0, 1) := by decide +kernel
theorem dX6_init_14 : decode cX6_init 14 = .ok (.sipush 401, 3) := by decide +kernel
theorem dX6_init_17 : decode cX6_init 17 = .ok (.newarray .byte, 2) := by decide +kernel
theorem dX6_init_19 : decode cX6_init 19 = .ok (.putfield 15, 3) := by decide +kernel
theorem dX6_init_22 : decode cX6_init 22 = .ok (.aload_n 0, 1) := by decide +kernel
theorem dX6_init_23 : decode cX6_init 23 = .ok (.sipush 401, 3) := by decide +kernel
theorem dX6_init_26 : decode cX6_init 26 = .ok (.newarray .short, 2) := by decide +kernel
theorem dX6_init_28 : decode cX6_init 28 = .ok (.putfield 18, 3) := by decide +kernel
theorem dX6_init_31 : decode cX6_init 31 = .ok (.return_, 1) := by decide +kernel
theorem dX6_appendNumber_0 : decode cX6_appendNumber 0 = .ok (.bipush 24, 2) := by decide +kernel
theorem dX6_appendNumber_2 : decode cX6_appendNumber 2 = .ok (.istore_n 2, 1) := by decide +kernel
theorem dX6_appendNumber_3 : decode cX6_appendNumber 3 = .ok (.iload_n 2, 1) := by decide +kernel
theorem dX6_appendNumber_4 : decode cX6_appendNumber 4 = .ok (.ifCond .lt 42, 3) := by decide +kernel
theorem dX6_appendNumber_7 : decode cX6_appendNumber 7 = .ok (.aload_n 0, 1) := by decide +kernel
theorem dX6_appendNumber_8 : decode cX6_appendNumber 8 = .ok (.getfield 22, 3) := by decide +kernel
theorem dX6_appendNumber_11 : decode cX6_appendNumber 11 = .ok (.sipush 400, 3) := by decide +kernel
theorem dX6_appendNumber_14 : decode cX6_appendNumber 14 = .ok (.if_icmp .ge 32, 3) := by decide +kernel
theorem dX6_appendNumber_17 : decode cX6_appendNumber 17 = .ok (.aload_n 0, 1) := by decide +kernel
theorem dX6_appendNumber_18 : decode cX6_appendNumber 18 = .ok (.getfield 9, 3) := by decide +kernel
theorem dX6_appendNumber_21 : decode cX6_appendNumber 21 = .ok (.aload_n 0, 1) := by decide +kernel
theorem dX6_appendNumber_22 : decode cX6_appendNumber 22 = .ok (.getfield 22, 3) := by decide +kernel
theorem dX6_appendNumber_25 : decode cX6_appendNumber 25 = .ok (.iload_n 1, 1) := by decide +kernel
theorem dX6_appendNumber_26 : decode cX6_appendNumber 26 = .ok (.iload_n 2, 1) := by decide +kernel
theorem dX6_appendNumber_27 : decode cX6_appendNumber 27 = .ok (.ishr, 1) := by decide +kernel
theorem dX6_appendNumber_28 : decode cX6_appendNumber 28 = .ok (.i2b, 1) := by decide +kernel
theorem dX6_appendNumber_29 : decode cX6_appendNumber 29 = .ok (.bastore, 1) := by decide +kernel
theorem dX6_appendNumber_30 : decode cX6_appendNumber 30 = .ok (.aload_n 0, 1) := by decide +kernel
theorem dX6_appendNumber_31 : decode cX6_appendNumber 31 = .ok (.dup, 1) := by decide +kernel
theorem dX6_appendNumber_32 : decode cX6_appendNumber 32 = .ok (.getfield 22, 3) := by decide +kernel
theorem dX6_appendNumber_35 : decode cX6_appendNumber 35 = .ok (.iconst 1, 1) := by decide +kernel
theorem dX6_appendNumber_36 : decode cX6_appendNumber 36 = .ok (.iadd, 1) := by decide +kernel
theorem dX6_appendNumber_37 : decode cX6_appendNumber 37 = .ok (.putfield 22, 3) := by decide +kernel
theorem dX6_appendNumber_40 : decode cX6_appendNumber 40 = .ok (.iinc 2 (-8), 3) := by decide +kernel
theorem dX6_appendNumber_43 : decode cX6_appendNumber 43 = .ok (.goto (-40), 3) := by decide +kernel
theorem dX6_appendNumber_46 : decode cX6_appendNumber 46 = .ok (.return_, 1) := by decide +kernel
theorem dX6_startReading_0 : decode cX6_startReading 0 = .ok (.aload_n 0, 1) := by decide +kernel
theorem dX6_startReading_1 : decode cX6_startReading 1 = .ok (.iconst 0, 1) := by decide +kernel
theorem dX6_startReading_2 : decode cX6_startReading 2 = .ok (.putfield 26, 3) := by decide +kernel
theorem dX6_startReading_5 : decode cX6_startReading 5 = .ok (.iconst 0, 1) := by decide +kernel
theorem dX6_startReading_6 : decode cX6_startReading 6 = .ok (.istore_n 1, 1) := by decide +kernel
theorem dX6_startReading_7 : decode cX6_startReading 7 = .ok (.iconst 0, 1) := by decide +kernel
theorem dX6_startReading_8 : decode cX6_startReading 8 = .ok (.istore_n 2, 1) := by decide +kernel
theorem dX6_startReading_9 : decode cX6_startReading 9 = .ok (.iload_n 2, 1) := by decide +kernel
theorem dX6_startReading_10 : decode cX6_startReading 10 = .ok (.sipush 400, 3) := by decide +kernel
theorem dX6_startReading_13 : decode cX6_startReading 13 = .ok (.if_icmp .ge 44, 3) := by decide +kernel
theorem dX6_startReading_16 : decode cX6_startReading 16 = .ok (.iload_n 1, 1) := by decide +kernel
theorem dX6_startReading_17 : decode cX6_startReading 17 = .ok (.aload_n 0, 1) := by decide +kernel
theorem dX6_startReading_18 : decode cX6_startReading 18 = .ok (.getfield 22, 3) := by decide +kernel
theorem dX6_startReading_21 : decode cX6_startReading 21 = .ok (.if_icmp .ge 36, 3) := by decide +kernel
theorem dX6_startReading_24 : decode cX6_startReading 24 = .ok (.aload_n 0, 1) := by decide +kernel
theorem dX6_startReading_25 : decode cX6_startReading 25 = .ok (.iload_n 1, 1) := by decide +kernel
theorem dX6_startReading_26 : decode cX6_startReading 26 = .ok (.invokevirtual 29, 3) := by decide +kernel
theorem dX6_startReading_29 : decode cX6_startReading 29 = .ok (.istore_n 3, 1) := by decide +kernel
theorem dX6_startReading_30 : decode cX6_startReading 30 = .ok (.aload_n 0, 1) := by decide +kernel
theorem dX6_startReading_31 : decode cX6_startReading 31 = .ok (.iload_n 1, 1) := by decide +kernel
theorem dX6_startReading_32 : decode cX6_startReading 32 = .ok (.invokevirtual 33, 3) := by decide +kernel
theorem dX6_startReading_35 : decode cX6_startReading 35 = .ok (.ifCond .ne 14, 3) := by decide +kernel
theorem dX6_startReading_38 : decode cX6_startReading 38 = .ok (.aload_n 0, 1) := by decide +kernel
theorem dX6_startReading_39 : decode cX6_startReading 39 = .ok (.aload_n 0, 1) := by decide +kernel
theorem dX6_startReading_40 : decode cX6_startReading 40 = .ok (.iload_n 1, 1) := by decide +kernel
theorem dX6_startReading_41 : decode cX6_startReading 41 = .ok (.iload_n 3, 1) := by decide +kernel
theorem dX6_startReading_42 : decode cX6_startReading 42 = .ok (.invokevirtual 37, 3) := by decide +kernel
theorem dX6_startReading_45 : decode cX6_startReading 45 = .ok (.iload_n 1, 1) := by decide +kernel
theorem dX6_startReading_46 : decode cX6_startReading 46 = .ok (.invokevirtual 41, 3) := by decide +kernel
theorem dX6_startReading_49 : decode cX6_startReading 49 = .ok (.iload_n 3, 1) := by decide +kernel
theorem dX6_startReading_50 : decode cX6_startReading 50 = .ok (.istore_n 1, 1) := by decide +kernel
theorem dX6_startReading_51 : decode cX6_startReading 51 = .ok (.iinc 2 1, 3) := by decide +kernel
theorem dX6_startReading_54 : decode cX6_startReading 54 = .ok (.goto (-45), 3) := by decide +kernel
theorem dX6_startReading_57 : decode cX6_startReading 57 = .ok (.aload_n 0, 1) := by decide +kernel
theorem dX6_startReading_58 : decode cX6_startReading 58 = .ok (.bipush (-7), 2) := by decide +kernel
theorem dX6_startReading_60 : decode cX6_startReading 60 = .ok (.aload_n 0, 1) := by decide +kernel
theorem dX6_startReading_61 : decode cX6_startReading 61 = .ok (.getfield 22, 3) := by decide +kernel
theorem dX6_startReading_64 : decode cX6_startReading 64 = .ok (.invokevirtual 41, 3) := by decide +kernel
theorem dX6_startReading_67 : decode cX6_startReading 67 = .ok (.aload_n 0, 1) := by decide +kernel
theorem dX6_startReading_68 : decode cX6_startReading 68 = .ok (.iconst 0, 1) := by decide +kernel
theorem dX6_startReading_69 : decode cX6_startReading 69 = .ok (.putfield 45, 3) := by decide +kernel
theorem dX6_startReading_72 : decode cX6_startReading 72 = .ok (.aload_n 0, 1) := by decide +kernel
theorem dX6_startReading_73 : decode cX6_startReading 73 = .ok (.invokevirtual 48, 3) := by decide +kernel
theorem dX6_startReading_76 : decode cX6_startReading 76 = .ok (.return_, 1) := by decide +kernel
theorem dX6_startAgain_0 : decode cX6_startAgain 0 = .ok (.aload_n 0, 1) := by decide +kernel
theorem dX6_startAgain_1 : decode cX6_startAgain 1 = .ok (.iconst 0, 1) := by decide +kernel
theorem dX6_startAgain_2 : decode cX6_startAgain 2 = .ok (.putfield 51, 3) := by decide +kernel
theorem dX6_startAgain_5 : decode cX6_startAgain 5 = .ok (.aload_n 0, 1) := by decide +kernel
theorem dX6_startAgain_6 : decode cX6_startAgain 6 = .ok (.aload_n 0, 1) := by decide +kernel
theorem dX6_startAgain_7 : decode cX6_startAgain 7 = .ok (.getfield 15, 3) := by decide +kernel
theorem dX6_startAgain_10 : decode cX6_startAgain 10 = .ok (.aload_n 0, 1) := by decide +kernel
theorem dX6_startAgain_11 : decode cX6_startAgain 11 = .ok (.getfield 51, 3) := by decide +kernel
theorem dX6_startAgain_14 : decode cX6_startAgain 14 = .ok (.baload, 1) := by decide +kernel
theorem dX6_startAgain_15 : decode cX6_startAgain 15 = .ok (.putfield 54, 3) := by decide +kernel
theorem dX6_startAgain_18 : decode cX6_startAgain 18 = .ok (.return_, 1) := by decide +kernel
theorem dX6_advance_0 : decode cX6_advance 0 = .ok (.aload_n 0, 1) := by decide +kernel
theorem dX6_advance_1 : decode cX6_advance 1 = .ok (.getfield 51, 3) := by decide +kernel
theorem dX6_advance_4 : decode cX6_advance 4 = .ok (.aload_n 0, 1) := by decide +kernel
theorem dX6_advance_5 : decode cX6_advance 5 = .ok (.getfield 26, 3) := by decide +kernel
theorem dX6_advance_8 : decode cX6_advance 8 = .ok (.iconst 1, 1) := by decide +kernel
theorem dX6_advance_9 : decode cX6_advance 9 = .ok (.isub, 1) := by decide +kernel
theorem dX6_advance_10 : decode cX6_advance 10 = .ok (.if_icmp .ge 13, 3) := by decide +kernel
theorem dX6_advance_13 : decode cX6_advance 13 = .ok (.aload_n 0, 1) := by decide +kernel
theorem dX6_advance_14 : decode cX6_advance 14 = .ok (.dup, 1) := by decide +kernel
theorem dX6_advance_15 : decode cX6_advance 15 = .ok (.getfield 51, 3) := by decide +kernel
theorem dX6_advance_18 : decode cX6_advance 18 = .ok (.iconst 1, 1) := by decide +kernel
theorem dX6_advance_19 : decode cX6_advance 19 = .ok (.iadd, 1) := by decide +kernel
theorem dX6_advance_20 : decode cX6_advance 20 = .ok (.putfield 51, 3) := by decide +kernel
theorem dX6_advance_23 : decode cX6_advance 23 = .ok (.aload_n 0, 1) := by decide +kernel
theorem dX6_advance_24 : decode cX6_advance 24 = .ok (.aload_n 0, 1) := by decide +kernel
theorem dX6_advance_25 : decode cX6_advance 25 = .ok (.getfield 15, 3) := by decide +kernel
theorem dX6_advance_28 : decode cX6_advance 28 = .ok (.aload_n 0, 1) := by decide +kernel
theorem dX6_advance_29 : decode cX6_advance 29 = .ok (.getfield 51, 3) := by decide +kernel
theorem dX6_advance_32 : decode cX6_advance 32 = .ok (.baload, 1) := by decide +kernel
theorem dX6_advance_33 : decode cX6_advance 33 = .ok (.putfield 54, 3) := by decide +kernel
theorem dX6_advance_36 : decode cX6_advance 36 = .ok (.return_, 1) := by decide +kernel
theorem dX6_refuse_0 : decode cX6_refuse 0 = .ok (.aload_n 0, 1) := by decide +kernel
theorem dX6_refuse_1 : decode cX6_refuse 1 = .ok (.iload_n 1, 1) := by decide +kernel
theorem dX6_refuse_2 : decode cX6_refuse 2 = .ok (.bipush 8, 2) := by decide +kernel
theorem dX6_refuse_4 : decode cX6_refuse 4 = .ok (.aload_n 0, 1) := by decide +kernel
theorem dX6_refuse_5 : decode cX6_refuse 5 = .ok (.getfield 18, 3) := by decide +kernel
theorem dX6_refuse_8 : decode cX6_refuse 8 = .ok (.aload_n 0, 1) := by decide +kernel
theorem dX6_refuse_9 : decode cX6_refuse 9 = .ok (.getfield 51, 3) := by decide +kernel
theorem dX6_refuse_12 : decode cX6_refuse 12 = .ok (.saload, 1) := by decide +kernel
theorem dX6_refuse_13 : decode cX6_refuse 13 = .ok (.imul, 1) := by decide +kernel
theorem dX6_refuse_14 : decode cX6_refuse 14 = .ok (.iadd, 1) := by decide +kernel
theorem dX6_refuse_15 : decode cX6_refuse 15 = .ok (.putfield 45, 3) := by decide +kernel
theorem dX6_refuse_18 : decode cX6_refuse 18 = .ok (.iconst 0, 1) := by decide +kernel
theorem dX6_refuse_19 : decode cX6_refuse 19 = .ok (.ireturn, 1) := by decide +kernel
theorem dX6_keepToken_0 : decode cX6_keepToken 0 = .ok (.aload_n 0, 1) := by decide +kernel
theorem dX6_keepToken_1 : decode cX6_keepToken 1 = .ok (.getfield 26, 3) := by decide +kernel
theorem dX6_keepToken_4 : decode cX6_keepToken 4 = .ok (.sipush 400, 3) := by decide +kernel
theorem dX6_keepToken_7 : decode cX6_keepToken 7 = .ok (.if_icmp .le 4, 3) := by decide +kernel
theorem dX6_keepToken_10 : decode cX6_keepToken 10 = .ok (.return_, 1) := by decide +kernel
theorem dX6_keepToken_11 : decode cX6_keepToken 11 = .ok (.aload_n 0, 1) := by decide +kernel
theorem dX6_keepToken_12 : decode cX6_keepToken 12 = .ok (.getfield 15, 3) := by decide +kernel
theorem dX6_keepToken_15 : decode cX6_keepToken 15 = .ok (.aload_n 0, 1) := by decide +kernel
theorem dX6_keepToken_16 : decode cX6_keepToken 16 = .ok (.getfield 26, 3) := by decide +kernel
theorem dX6_keepToken_19 : decode cX6_keepToken 19 = .ok (.iload_n 1, 1) := by decide +kernel
theorem dX6_keepToken_20 : decode cX6_keepToken 20 = .ok (.i2b, 1) := by decide +kernel
theorem dX6_keepToken_21 : decode cX6_keepToken 21 = .ok (.bastore, 1) := by decide +kernel
theorem dX6_keepToken_22 : decode cX6_keepToken 22 = .ok (.aload_n 0, 1) := by decide +kernel
theorem dX6_keepToken_23 : decode cX6_keepToken 23 = .ok (.getfield 18, 3) := by decide +kernel
theorem dX6_keepToken_26 : decode cX6_keepToken 26 = .ok (.aload_n 0, 1) := by decide +kernel
theorem dX6_keepToken_27 : decode cX6_keepToken 27 = .ok (.getfield 26, 3) := by decide +kernel
theorem dX6_keepToken_30 : decode cX6_keepToken 30 = .ok (.iload_n 2, 1) := by decide +kernel
theorem dX6_keepToken_31 : decode cX6_keepToken 31 = .ok (.i2s, 1) := by decide +kernel
theorem dX6_keepToken_32 : decode cX6_keepToken 32 = .ok (.sastore, 1) := by decide +kernel
theorem dX6_keepToken_33 : decode cX6_keepToken 33 = .ok (.aload_n 0, 1) := by decide +kernel
theorem dX6_keepToken_34 : decode cX6_keepToken 34 = .ok (.dup, 1) := by decide +kernel
theorem dX6_keepToken_35 : decode cX6_keepToken 35 = .ok (.getfield 26, 3) := by decide +kernel
theorem dX6_keepToken_38 : decode cX6_keepToken 38 = .ok (.iconst 1, 1) := by decide +kernel
theorem dX6_keepToken_39 : decode cX6_keepToken 39 = .ok (.iadd, 1) := by decide +kernel
theorem dX6_keepToken_40 : decode cX6_keepToken 40 = .ok (.putfield 26, 3) := by decide +kernel
theorem dX6_keepToken_43 : decode cX6_keepToken 43 = .ok (.return_, 1) := by decide +kernel
theorem dX6_endOfToken_0 : decode cX6_endOfToken 0 = .ok (.iload_n 1, 1) := by decide +kernel
theorem dX6_endOfToken_1 : decode cX6_endOfToken 1 = .ok (.iconst 1, 1) := by decide +kernel
theorem dX6_endOfToken_2 : decode cX6_endOfToken 2 = .ok (.iadd, 1) := by decide +kernel
theorem dX6_endOfToken_3 : decode cX6_endOfToken 3 = .ok (.istore_n 2, 1) := by decide +kernel
theorem dX6_endOfToken_4 : decode cX6_endOfToken 4 = .ok (.aload_n 0, 1) := by decide +kernel
theorem dX6_endOfToken_5 : decode cX6_endOfToken 5 = .ok (.iload_n 1, 1) := by decide +kernel
theorem dX6_endOfToken_6 : decode cX6_endOfToken 6 = .ok (.invokevirtual 57, 3) := by decide +kernel
theorem dX6_endOfToken_9 : decode cX6_endOfToken 9 = .ok (.ifCond .eq 25, 3) := by decide +kernel
theorem dX6_endOfToken_12 : decode cX6_endOfToken 12 = .ok (.iload_n 2, 1) := by decide +kernel
theorem dX6_endOfToken_13 : decode cX6_endOfToken 13 = .ok (.aload_n 0, 1) := by decide +kernel
theorem dX6_endOfToken_14 : decode cX6_endOfToken 14 = .ok (.getfield 22, 3) := by decide +kernel
theorem dX6_endOfToken_17 : decode cX6_endOfToken 17 = .ok (.if_icmp .ge 47, 3) := by decide +kernel
theorem dX6_endOfToken_20 : decode cX6_endOfToken 20 = .ok (.aload_n 0, 1) := by decide +kernel
theorem dX6_endOfToken_21 : decode cX6_endOfToken 21 = .ok (.iload_n 2, 1) := by decide +kernel
theorem dX6_endOfToken_22 : decode cX6_endOfToken 22 = .ok (.invokevirtual 57, 3) := by decide +kernel
theorem dX6_endOfToken_25 : decode cX6_endOfToken 25 = .ok (.ifCond .eq 39, 3) := by decide +kernel
theorem dX6_endOfToken_28 : decode cX6_endOfToken 28 = .ok (.iinc 2 1, 3) := by decide +kernel
theorem dX6_endOfToken_31 : decode cX6_endOfToken 31 = .ok (.goto (-19), 3) := by decide +kernel
theorem dX6_endOfToken_34 : decode cX6_endOfToken 34 = .ok (.aload_n 0, 1) := by decide +kernel
theorem dX6_endOfToken_35 : decode cX6_endOfToken 35 = .ok (.iload_n 1, 1) := by decide +kernel
theorem dX6_endOfToken_36 : decode cX6_endOfToken 36 = .ok (.invokevirtual 60, 3) := by decide +kernel
theorem dX6_endOfToken_39 : decode cX6_endOfToken 39 = .ok (.ifCond .eq 25, 3) := by decide +kernel
theorem dX6_endOfToken_42 : decode cX6_endOfToken 42 = .ok (.iload_n 2, 1) := by decide +kernel
theorem dX6_endOfToken_43 : decode cX6_endOfToken 43 = .ok (.aload_n 0, 1) := by decide +kernel
theorem dX6_endOfToken_44 : decode cX6_endOfToken 44 = .ok (.getfield 22, 3) := by decide +kernel
theorem dX6_endOfToken_47 : decode cX6_endOfToken 47 = .ok (.if_icmp .ge 17, 3) := by decide +kernel
theorem dX6_endOfToken_50 : decode cX6_endOfToken 50 = .ok (.aload_n 0, 1) := by decide +kernel
theorem dX6_endOfToken_51 : decode cX6_endOfToken 51 = .ok (.iload_n 2, 1) := by decide +kernel
theorem dX6_endOfToken_52 : decode cX6_endOfToken 52 = .ok (.invokevirtual 60, 3) := by decide +kernel
theorem dX6_endOfToken_55 : decode cX6_endOfToken 55 = .ok (.ifCond .eq 9, 3) := by decide +kernel
theorem dX6_endOfToken_58 : decode cX6_endOfToken 58 = .ok (.iinc 2 1, 3) := by decide +kernel
theorem dX6_endOfToken_61 : decode cX6_endOfToken 61 = .ok (.goto (-19), 3) := by decide +kernel
theorem dX6_endOfToken_64 : decode cX6_endOfToken 64 = .ok (.iload_n 2, 1) := by decide +kernel
theorem dX6_endOfToken_65 : decode cX6_endOfToken 65 = .ok (.ireturn, 1) := by decide +kernel
theorem dX6_tokenOf_0 : decode cX6_tokenOf 0 = .ok (.aload_n 0, 1) := by decide +kernel
theorem dX6_tokenOf_1 : decode cX6_tokenOf 1 = .ok (.iload_n 1, 1) := by decide +kernel
theorem dX6_tokenOf_2 : decode cX6_tokenOf 2 = .ok (.invokevirtual 57, 3) := by decide +kernel
theorem dX6_tokenOf_5 : decode cX6_tokenOf 5 = .ok (.ifCond .eq 53, 3) := by decide +kernel
theorem dX6_tokenOf_8 : decode cX6_tokenOf 8 = .ok (.aload_n 0, 1) := by decide +kernel
theorem dX6_tokenOf_9 : decode cX6_tokenOf 9 = .ok (.getfield 9, 3) := by decide +kernel
theorem dX6_tokenOf_12 : decode cX6_tokenOf 12 = .ok (.iload_n 1, 1) := by decide +kernel
theorem dX6_tokenOf_13 : decode cX6_tokenOf 13 = .ok (.baload, 1) := by decide +kernel
theorem dX6_tokenOf_14 : decode cX6_tokenOf 14 = .ok (.bipush 48, 2) := by decide +kernel
theorem dX6_tokenOf_16 : decode cX6_tokenOf 16 = .ok (.isub, 1) := by decide +kernel
theorem dX6_tokenOf_17 : decode cX6_tokenOf 17 = .ok (.istore_n 3, 1) := by decide +kernel
theorem dX6_tokenOf_18 : decode cX6_tokenOf 18 = .ok (.iload_n 2, 1) := by decide +kernel
theorem dX6_tokenOf_19 : decode cX6_tokenOf 19 = .ok (.iload_n 1, 1) := by decide +kernel
theorem dX6_tokenOf_20 : decode cX6_tokenOf 20 = .ok (.isub, 1) := by decide +kernel
theorem dX6_tokenOf_21 : decode cX6_tokenOf 21 = .ok (.iconst 1, 1) := by decide +kernel
theorem dX6_tokenOf_22 : decode cX6_tokenOf 22 = .ok (.if_icmp .ne 7, 3) := by decide +kernel
theorem dX6_tokenOf_25 : decode cX6_tokenOf 25 = .ok (.iload_n 3, 1) := by decide +kernel
theorem dX6_tokenOf_26 : decode cX6_tokenOf 26 = .ok (.goto 31, 3) := by decide +kernel
theorem dX6_tokenOf_29 : decode cX6_tokenOf 29 = .ok (.iload_n 2, 1) := by decide +kernel
theorem dX6_tokenOf_30 : decode cX6_tokenOf 30 = .ok (.iload_n 1, 1) := by decide +kernel
theorem dX6_tokenOf_31 : decode cX6_tokenOf 31 = .ok (.isub, 1) := by decide +kernel
theorem dX6_tokenOf_32 : decode cX6_tokenOf 32 = .ok (.iconst 2, 1) := by decide +kernel
theorem dX6_tokenOf_33 : decode cX6_tokenOf 33 = .ok (.if_icmp .ne 22, 3) := by decide +kernel
theorem dX6_tokenOf_36 : decode cX6_tokenOf 36 = .ok (.bipush 10, 2) := by decide +kernel
theorem dX6_tokenOf_38 : decode cX6_tokenOf 38 = .ok (.iload_n 3, 1) := by decide +kernel
theorem dX6_tokenOf_39 : decode cX6_tokenOf 39 = .ok (.imul, 1) := by decide +kernel
theorem dX6_tokenOf_40 : decode cX6_tokenOf 40 = .ok (.aload_n 0, 1) := by decide +kernel
theorem dX6_tokenOf_41 : decode cX6_tokenOf 41 = .ok (.getfield 9, 3) := by decide +kernel
theorem dX6_tokenOf_44 : decode cX6_tokenOf 44 = .ok (.iload_n 1, 1) := by decide +kernel
theorem dX6_tokenOf_45 : decode cX6_tokenOf 45 = .ok (.iconst 1, 1) := by decide +kernel
theorem dX6_tokenOf_46 : decode cX6_tokenOf 46 = .ok (.iadd, 1) := by decide +kernel
theorem dX6_tokenOf_47 : decode cX6_tokenOf 47 = .ok (.baload, 1) := by decide +kernel
theorem dX6_tokenOf_48 : decode cX6_tokenOf 48 = .ok (.iadd, 1) := by decide +kernel
theorem dX6_tokenOf_49 : decode cX6_tokenOf 49 = .ok (.bipush 48, 2) := by decide +kernel
theorem dX6_tokenOf_51 : decode cX6_tokenOf 51 = .ok (.isub, 1) := by decide +kernel
theorem dX6_tokenOf_52 : decode cX6_tokenOf 52 = .ok (.goto 5, 3) := by decide +kernel
theorem dX6_tokenOf_55 : decode cX6_tokenOf 55 = .ok (.bipush (-6), 2) := by decide +kernel
theorem dX6_tokenOf_57 : decode cX6_tokenOf 57 = .ok (.ireturn, 1) := by decide +kernel
theorem dX6_tokenOf_58 : decode cX6_tokenOf 58 = .ok (.aload_n 0, 1) := by decide +kernel
theorem dX6_tokenOf_59 : decode cX6_tokenOf 59 = .ok (.iload_n 1, 1) := by decide +kernel
theorem dX6_tokenOf_60 : decode cX6_tokenOf 60 = .ok (.invokevirtual 60, 3) := by decide +kernel
theorem dX6_tokenOf_63 : decode cX6_tokenOf 63 = .ok (.ifCond .eq 54, 3) := by decide +kernel
theorem dX6_tokenOf_66 : decode cX6_tokenOf 66 = .ok (.aload_n 0, 1) := by decide +kernel
theorem dX6_tokenOf_67 : decode cX6_tokenOf 67 = .ok (.ldc 63, 2) := by decide +kernel
theorem dX6_tokenOf_69 : decode cX6_tokenOf 69 = .ok (.iload_n 1, 1) := by decide +kernel
theorem dX6_tokenOf_70 : decode cX6_tokenOf 70 = .ok (.iload_n 2, 1) := by decide +kernel
theorem dX6_tokenOf_71 : decode cX6_tokenOf 71 = .ok (.invokevirtual 65, 3) := by decide +kernel
theorem dX6_tokenOf_74 : decode cX6_tokenOf 74 = .ok (.ifCond .eq 8, 3) := by decide +kernel
theorem dX6_tokenOf_77 : decode cX6_tokenOf 77 = .ok (.bipush (-3), 2) := by decide +kernel
theorem dX6_tokenOf_79 : decode cX6_tokenOf 79 = .ok (.goto 37, 3) := by decide +kernel
theorem dX6_tokenOf_82 : decode cX6_tokenOf 82 = .ok (.aload_n 0, 1) := by decide +kernel
theorem dX6_tokenOf_83 : decode cX6_tokenOf 83 = .ok (.ldc 69, 2) := by decide +kernel
theorem dX6_tokenOf_85 : decode cX6_tokenOf 85 = .ok (.iload_n 1, 1) := by decide +kernel
theorem dX6_tokenOf_86 : decode cX6_tokenOf 86 = .ok (.iload_n 2, 1) := by decide +kernel
theorem dX6_tokenOf_87 : decode cX6_tokenOf 87 = .ok (.invokevirtual 65, 3) := by decide +kernel
theorem dX6_tokenOf_90 : decode cX6_tokenOf 90 = .ok (.ifCond .eq 8, 3) := by decide +kernel
theorem dX6_tokenOf_93 : decode cX6_tokenOf 93 = .ok (.bipush (-4), 2) := by decide +kernel
theorem dX6_tokenOf_95 : decode cX6_tokenOf 95 = .ok (.goto 21, 3) := by decide +kernel
theorem dX6_tokenOf_98 : decode cX6_tokenOf 98 = .ok (.aload_n 0, 1) := by decide +kernel
theorem dX6_tokenOf_99 : decode cX6_tokenOf 99 = .ok (.ldc 71, 2) := by decide +kernel
theorem dX6_tokenOf_101 : decode cX6_tokenOf 101 = .ok (.iload_n 1, 1) := by decide +kernel
theorem dX6_tokenOf_102 : decode cX6_tokenOf 102 = .ok (.iload_n 2, 1) := by decide +kernel
theorem dX6_tokenOf_103 : decode cX6_tokenOf 103 = .ok (.invokevirtual 65, 3) := by decide +kernel
theorem dX6_tokenOf_106 : decode cX6_tokenOf 106 = .ok (.ifCond .eq 8, 3) := by decide +kernel
theorem dX6_tokenOf_109 : decode cX6_tokenOf 109 = .ok (.bipush (-5), 2) := by decide +kernel
theorem dX6_tokenOf_111 : decode cX6_tokenOf 111 = .ok (.goto 5, 3) := by decide +kernel
theorem dX6_tokenOf_114 : decode cX6_tokenOf 114 = .ok (.bipush (-6), 2) := by decide +kernel
theorem dX6_tokenOf_116 : decode cX6_tokenOf 116 = .ok (.ireturn, 1) := by decide +kernel
theorem dX6_tokenOf_117 : decode cX6_tokenOf 117 = .ok (.aload_n 0, 1) := by decide +kernel
theorem dX6_tokenOf_118 : decode cX6_tokenOf 118 = .ok (.getfield 9, 3) := by decide +kernel
theorem dX6_tokenOf_121 : decode cX6_tokenOf 121 = .ok (.iload_n 1, 1) := by decide +kernel
theorem dX6_tokenOf_122 : decode cX6_tokenOf 122 = .ok (.baload, 1) := by decide +kernel
theorem dX6_tokenOf_123 : decode cX6_tokenOf 123 = .ok (.bipush 45, 2) := by decide +kernel
theorem dX6_tokenOf_125 : decode cX6_tokenOf 125 = .ok (.if_icmp .ne 7, 3) := by decide +kernel
theorem dX6_tokenOf_128 : decode cX6_tokenOf 128 = .ok (.iconst (-1), 1) := by decide +kernel
theorem dX6_tokenOf_129 : decode cX6_tokenOf 129 = .ok (.goto 21, 3) := by decide +kernel
theorem dX6_tokenOf_132 : decode cX6_tokenOf 132 = .ok (.aload_n 0, 1) := by decide +kernel
theorem dX6_tokenOf_133 : decode cX6_tokenOf 133 = .ok (.getfield 9, 3) := by decide +kernel
theorem dX6_tokenOf_136 : decode cX6_tokenOf 136 = .ok (.iload_n 1, 1) := by decide +kernel
theorem dX6_tokenOf_137 : decode cX6_tokenOf 137 = .ok (.baload, 1) := by decide +kernel
theorem dX6_tokenOf_138 : decode cX6_tokenOf 138 = .ok (.bipush 59, 2) := by decide +kernel
theorem dX6_tokenOf_140 : decode cX6_tokenOf 140 = .ok (.if_icmp .ne 8, 3) := by decide +kernel
theorem dX6_tokenOf_143 : decode cX6_tokenOf 143 = .ok (.bipush (-2), 2) := by decide +kernel
theorem dX6_tokenOf_145 : decode cX6_tokenOf 145 = .ok (.goto 5, 3) := by decide +kernel
theorem dX6_tokenOf_148 : decode cX6_tokenOf 148 = .ok (.bipush (-6), 2) := by decide +kernel
theorem dX6_tokenOf_150 : decode cX6_tokenOf 150 = .ok (.ireturn, 1) := by decide +kernel
theorem dX6_isBlank_0 : decode cX6_isBlank 0 = .ok (.aload_n 0, 1) := by decide +kernel
theorem dX6_isBlank_1 : decode cX6_isBlank 1 = .ok (.getfield 9, 3) := by decide +kernel
theorem dX6_isBlank_4 : decode cX6_isBlank 4 = .ok (.iload_n 1, 1) := by decide +kernel
theorem dX6_isBlank_5 : decode cX6_isBlank 5 = .ok (.baload, 1) := by decide +kernel
theorem dX6_isBlank_6 : decode cX6_isBlank 6 = .ok (.bipush 32, 2) := by decide +kernel
theorem dX6_isBlank_8 : decode cX6_isBlank 8 = .ok (.if_icmp .eq 14, 3) := by decide +kernel
theorem dX6_isBlank_11 : decode cX6_isBlank 11 = .ok (.aload_n 0, 1) := by decide +kernel
theorem dX6_isBlank_12 : decode cX6_isBlank 12 = .ok (.getfield 9, 3) := by decide +kernel
theorem dX6_isBlank_15 : decode cX6_isBlank 15 = .ok (.iload_n 1, 1) := by decide +kernel
theorem dX6_isBlank_16 : decode cX6_isBlank 16 = .ok (.baload, 1) := by decide +kernel
theorem dX6_isBlank_17 : decode cX6_isBlank 17 = .ok (.bipush 10, 2) := by decide +kernel
theorem dX6_isBlank_19 : decode cX6_isBlank 19 = .ok (.if_icmp .ne 7, 3) := by decide +kernel
theorem dX6_isBlank_22 : decode cX6_isBlank 22 = .ok (.iconst 1, 1) := by decide +kernel
theorem dX6_isBlank_23 : decode cX6_isBlank 23 = .ok (.goto 4, 3) := by decide +kernel
theorem dX6_isBlank_26 : decode cX6_isBlank 26 = .ok (.iconst 0, 1) := by decide +kernel
theorem dX6_isBlank_27 : decode cX6_isBlank 27 = .ok (.ireturn, 1) := by decide +kernel
theorem dX6_isDigit_0 : decode cX6_isDigit 0 = .ok (.aload_n 0, 1) := by decide +kernel
theorem dX6_isDigit_1 : decode cX6_isDigit 1 = .ok (.getfield 9, 3) := by decide +kernel
theorem dX6_isDigit_4 : decode cX6_isDigit 4 = .ok (.iload_n 1, 1) := by decide +kernel
theorem dX6_isDigit_5 : decode cX6_isDigit 5 = .ok (.baload, 1) := by decide +kernel
theorem dX6_isDigit_6 : decode cX6_isDigit 6 = .ok (.bipush 48, 2) := by decide +kernel
theorem dX6_isDigit_8 : decode cX6_isDigit 8 = .ok (.if_icmp .lt 18, 3) := by decide +kernel
theorem dX6_isDigit_11 : decode cX6_isDigit 11 = .ok (.aload_n 0, 1) := by decide +kernel
theorem dX6_isDigit_12 : decode cX6_isDigit 12 = .ok (.getfield 9, 3) := by decide +kernel
theorem dX6_isDigit_15 : decode cX6_isDigit 15 = .ok (.iload_n 1, 1) := by decide +kernel
theorem dX6_isDigit_16 : decode cX6_isDigit 16 = .ok (.baload, 1) := by decide +kernel
theorem dX6_isDigit_17 : decode cX6_isDigit 17 = .ok (.bipush 57, 2) := by decide +kernel
theorem dX6_isDigit_19 : decode cX6_isDigit 19 = .ok (.if_icmp .gt 7, 3) := by decide +kernel
theorem dX6_isDigit_22 : decode cX6_isDigit 22 = .ok (.iconst 1, 1) := by decide +kernel
theorem dX6_isDigit_23 : decode cX6_isDigit 23 = .ok (.goto 4, 3) := by decide +kernel
theorem dX6_isDigit_26 : decode cX6_isDigit 26 = .ok (.iconst 0, 1) := by decide +kernel
theorem dX6_isDigit_27 : decode cX6_isDigit 27 = .ok (.ireturn, 1) := by decide +kernel
theorem dX6_isLetter_0 : decode cX6_isLetter 0 = .ok (.aload_n 0, 1) := by decide +kernel
theorem dX6_isLetter_1 : decode cX6_isLetter 1 = .ok (.getfield 9, 3) := by decide +kernel
theorem dX6_isLetter_4 : decode cX6_isLetter 4 = .ok (.iload_n 1, 1) := by decide +kernel
theorem dX6_isLetter_5 : decode cX6_isLetter 5 = .ok (.baload, 1) := by decide +kernel
theorem dX6_isLetter_6 : decode cX6_isLetter 6 = .ok (.bipush 97, 2) := by decide +kernel
theorem dX6_isLetter_8 : decode cX6_isLetter 8 = .ok (.if_icmp .lt 18, 3) := by decide +kernel
theorem dX6_isLetter_11 : decode cX6_isLetter 11 = .ok (.aload_n 0, 1) := by decide +kernel
theorem dX6_isLetter_12 : decode cX6_isLetter 12 = .ok (.getfield 9, 3) := by decide +kernel
theorem dX6_isLetter_15 : decode cX6_isLetter 15 = .ok (.iload_n 1, 1) := by decide +kernel
theorem dX6_isLetter_16 : decode cX6_isLetter 16 = .ok (.baload, 1) := by decide +kernel
theorem dX6_isLetter_17 : decode cX6_isLetter 17 = .ok (.bipush 122, 2) := by decide +kernel
theorem dX6_isLetter_19 : decode cX6_isLetter 19 = .ok (.if_icmp .gt 7, 3) := by decide +kernel
theorem dX6_isLetter_22 : decode cX6_isLetter 22 = .ok (.iconst 1, 1) := by decide +kernel
theorem dX6_isLetter_23 : decode cX6_isLetter 23 = .ok (.goto 4, 3) := by decide +kernel
theorem dX6_isLetter_26 : decode cX6_isLetter 26 = .ok (.iconst 0, 1) := by decide +kernel
theorem dX6_isLetter_27 : decode cX6_isLetter 27 = .ok (.ireturn, 1) := by decide +kernel
theorem dX6_isWord_0 : decode cX6_isWord 0 = .ok (.iload_n 3, 1) := by decide +kernel
theorem dX6_isWord_1 : decode cX6_isWord 1 = .ok (.iload_n 2, 1) := by decide +kernel
theorem dX6_isWord_2 : decode cX6_isWord 2 = .ok (.isub, 1) := by decide +kernel
theorem dX6_isWord_3 : decode cX6_isWord 3 = .ok (.aload_n 1, 1) := by decide +kernel
theorem dX6_isWord_4 : decode cX6_isWord 4 = .ok (.invokevirtual 73, 3) := by decide +kernel
theorem dX6_isWord_7 : decode cX6_isWord 7 = .ok (.if_icmp .eq 5, 3) := by decide +kernel
theorem dX6_isWord_10 : decode cX6_isWord 10 = .ok (.iconst 0, 1) := by decide +kernel
theorem dX6_isWord_11 : decode cX6_isWord 11 = .ok (.ireturn, 1) := by decide +kernel
theorem dX6_isWord_12 : decode cX6_isWord 12 = .ok (.iconst 0, 1) := by decide +kernel
theorem dX6_isWord_13 : decode cX6_isWord 13 = .ok (.istore 4, 2) := by decide +kernel
theorem dX6_isWord_15 : decode cX6_isWord 15 = .ok (.iload 4, 2) := by decide +kernel
theorem dX6_isWord_17 : decode cX6_isWord 17 = .ok (.aload_n 1, 1) := by decide +kernel
theorem dX6_isWord_18 : decode cX6_isWord 18 = .ok (.invokevirtual 73, 3) := by decide +kernel
theorem dX6_isWord_21 : decode cX6_isWord 21 = .ok (.if_icmp .ge 29, 3) := by decide +kernel
theorem dX6_isWord_24 : decode cX6_isWord 24 = .ok (.aload_n 0, 1) := by decide +kernel
theorem dX6_isWord_25 : decode cX6_isWord 25 = .ok (.getfield 9, 3) := by decide +kernel
theorem dX6_isWord_28 : decode cX6_isWord 28 = .ok (.iload_n 2, 1) := by decide +kernel
theorem dX6_isWord_29 : decode cX6_isWord 29 = .ok (.iload 4, 2) := by decide +kernel
theorem dX6_isWord_31 : decode cX6_isWord 31 = .ok (.iadd, 1) := by decide +kernel
theorem dX6_isWord_32 : decode cX6_isWord 32 = .ok (.baload, 1) := by decide +kernel
theorem dX6_isWord_33 : decode cX6_isWord 33 = .ok (.aload_n 1, 1) := by decide +kernel
theorem dX6_isWord_34 : decode cX6_isWord 34 = .ok (.iload 4, 2) := by decide +kernel
theorem dX6_isWord_36 : decode cX6_isWord 36 = .ok (.invokevirtual 78, 3) := by decide +kernel
theorem dX6_isWord_39 : decode cX6_isWord 39 = .ok (.if_icmp .eq 5, 3) := by decide +kernel
theorem dX6_isWord_42 : decode cX6_isWord 42 = .ok (.iconst 0, 1) := by decide +kernel
theorem dX6_isWord_43 : decode cX6_isWord 43 = .ok (.ireturn, 1) := by decide +kernel
theorem dX6_isWord_44 : decode cX6_isWord 44 = .ok (.iinc 4 1, 3) := by decide +kernel
theorem dX6_isWord_47 : decode cX6_isWord 47 = .ok (.goto (-32), 3) := by decide +kernel
theorem dX6_isWord_50 : decode cX6_isWord 50 = .ok (.iconst 1, 1) := by decide +kernel
theorem dX6_isWord_51 : decode cX6_isWord 51 = .ok (.ireturn, 1) := by decide +kernel
theorem dX6_readLiteral_0 : decode cX6_readLiteral 0 = .ok (.aload_n 0, 1) := by decide +kernel
theorem dX6_readLiteral_1 : decode cX6_readLiteral 1 = .ok (.getfield 54, 3) := by decide +kernel
theorem dX6_readLiteral_4 : decode cX6_readLiteral 4 = .ok (.iconst (-1), 1) := by decide +kernel
theorem dX6_readLiteral_5 : decode cX6_readLiteral 5 = .ok (.if_icmp .ne 7, 3) := by decide +kernel
theorem dX6_readLiteral_8 : decode cX6_readLiteral 8 = .ok (.iconst 1, 1) := by decide +kernel
theorem dX6_readLiteral_9 : decode cX6_readLiteral 9 = .ok (.goto 4, 3) := by decide +kernel
theorem dX6_readLiteral_12 : decode cX6_readLiteral 12 = .ok (.iconst 0, 1) := by decide +kernel
theorem dX6_readLiteral_13 : decode cX6_readLiteral 13 = .ok (.istore 4, 2) := by decide +kernel
theorem dX6_readLiteral_15 : decode cX6_readLiteral 15 = .ok (.iload 4, 2) := by decide +kernel
theorem dX6_readLiteral_17 : decode cX6_readLiteral 17 = .ok (.ifCond .eq 15, 3) := by decide +kernel
theorem dX6_readLiteral_20 : decode cX6_readLiteral 20 = .ok (.iload_n 3, 1) := by decide +kernel
theorem dX6_readLiteral_21 : decode cX6_readLiteral 21 = .ok (.ifCond .eq 11, 3) := by decide +kernel
theorem dX6_readLiteral_24 : decode cX6_readLiteral 24 = .ok (.aload_n 0, 1) := by decide +kernel
theorem dX6_readLiteral_25 : decode cX6_readLiteral 25 = .ok (.iconst 3, 1) := by decide +kernel
theorem dX6_readLiteral_26 : decode cX6_readLiteral 26 = .ok (.invokevirtual 82, 3) := by decide +kernel
theorem dX6_readLiteral_29 : decode cX6_readLiteral 29 = .ok (.pop, 1) := by decide +kernel
theorem dX6_readLiteral_30 : decode cX6_readLiteral 30 = .ok (.iconst 0, 1) := by decide +kernel
theorem dX6_readLiteral_31 : decode cX6_readLiteral 31 = .ok (.ireturn, 1) := by decide +kernel
theorem dX6_readLiteral_32 : decode cX6_readLiteral 32 = .ok (.iload 4, 2) := by decide +kernel
theorem dX6_readLiteral_34 : decode cX6_readLiteral 34 = .ok (.ifCond .eq 7, 3) := by decide +kernel
theorem dX6_readLiteral_37 : decode cX6_readLiteral 37 = .ok (.aload_n 0, 1) := by decide +kernel
theorem dX6_readLiteral_38 : decode cX6_readLiteral 38 = .ok (.invokevirtual 85, 3) := by decide +kernel
theorem dX6_readLiteral_41 : decode cX6_readLiteral 41 = .ok (.aload_n 0, 1) := by decide +kernel
theorem dX6_readLiteral_42 : decode cX6_readLiteral 42 = .ok (.getfield 54, 3) := by decide +kernel
theorem dX6_readLiteral_45 : decode cX6_readLiteral 45 = .ok (.istore 5, 2) := by decide +kernel
theorem dX6_readLiteral_47 : decode cX6_readLiteral 47 = .ok (.iload 5, 2) := by decide +kernel
theorem dX6_readLiteral_49 : decode cX6_readLiteral 49 = .ok (.ifCond .ge 11, 3) := by decide +kernel
theorem dX6_readLiteral_52 : decode cX6_readLiteral 52 = .ok (.aload_n 0, 1) := by decide +kernel
theorem dX6_readLiteral_53 : decode cX6_readLiteral 53 = .ok (.iconst 1, 1) := by decide +kernel
theorem dX6_readLiteral_54 : decode cX6_readLiteral 54 = .ok (.invokevirtual 82, 3) := by decide +kernel
theorem dX6_readLiteral_57 : decode cX6_readLiteral 57 = .ok (.pop, 1) := by decide +kernel
theorem dX6_readLiteral_58 : decode cX6_readLiteral 58 = .ok (.iconst 0, 1) := by decide +kernel
theorem dX6_readLiteral_59 : decode cX6_readLiteral 59 = .ok (.ireturn, 1) := by decide +kernel
theorem dX6_readLiteral_60 : decode cX6_readLiteral 60 = .ok (.iload 5, 2) := by decide +kernel
theorem dX6_readLiteral_62 : decode cX6_readLiteral 62 = .ok (.iconst 1, 1) := by decide +kernel
theorem dX6_readLiteral_63 : decode cX6_readLiteral 63 = .ok (.if_icmp .lt 19, 3) := by decide +kernel
theorem dX6_readLiteral_66 : decode cX6_readLiteral 66 = .ok (.iload 5, 2) := by decide +kernel
theorem dX6_readLiteral_68 : decode cX6_readLiteral 68 = .ok (.iload_n 1, 1) := by decide +kernel
theorem dX6_readLiteral_69 : decode cX6_readLiteral 69 = .ok (.if_icmp .gt 13, 3) := by decide +kernel
theorem dX6_readLiteral_72 : decode cX6_readLiteral 72 = .ok (.iload_n 2, 1) := by decide +kernel
theorem dX6_readLiteral_73 : decode cX6_readLiteral 73 = .ok (.iload 5, 2) := by decide +kernel
theorem dX6_readLiteral_75 : decode cX6_readLiteral 75 = .ok (.invokestatic 88, 3) := by decide +kernel
theorem dX6_readLiteral_78 : decode cX6_readLiteral 78 = .ok (.iand, 1) := by decide +kernel
theorem dX6_readLiteral_79 : decode cX6_readLiteral 79 = .ok (.ifCond .eq 11, 3) := by decide +kernel
theorem dX6_readLiteral_82 : decode cX6_readLiteral 82 = .ok (.aload_n 0, 1) := by decide +kernel
theorem dX6_readLiteral_83 : decode cX6_readLiteral 83 = .ok (.iconst 2, 1) := by decide +kernel
theorem dX6_readLiteral_84 : decode cX6_readLiteral 84 = .ok (.invokevirtual 82, 3) := by decide +kernel
theorem dX6_readLiteral_87 : decode cX6_readLiteral 87 = .ok (.pop, 1) := by decide +kernel
theorem dX6_readLiteral_88 : decode cX6_readLiteral 88 = .ok (.iconst 0, 1) := by decide +kernel
theorem dX6_readLiteral_89 : decode cX6_readLiteral 89 = .ok (.ireturn, 1) := by decide +kernel
theorem dX6_readLiteral_90 : decode cX6_readLiteral 90 = .ok (.iload_n 3, 1) := by decide +kernel
theorem dX6_readLiteral_91 : decode cX6_readLiteral 91 = .ok (.ifCond .eq 11, 3) := by decide +kernel
theorem dX6_readLiteral_94 : decode cX6_readLiteral 94 = .ok (.aload_n 0, 1) := by decide +kernel
theorem dX6_readLiteral_95 : decode cX6_readLiteral 95 = .ok (.iconst 3, 1) := by decide +kernel
theorem dX6_readLiteral_96 : decode cX6_readLiteral 96 = .ok (.invokevirtual 82, 3) := by decide +kernel
theorem dX6_readLiteral_99 : decode cX6_readLiteral 99 = .ok (.pop, 1) := by decide +kernel
theorem dX6_readLiteral_100 : decode cX6_readLiteral 100 = .ok (.iconst 0, 1) := by decide +kernel
theorem dX6_readLiteral_101 : decode cX6_readLiteral 101 = .ok (.ireturn, 1) := by decide +kernel
theorem dX6_readLiteral_102 : decode cX6_readLiteral 102 = .ok (.aload_n 0, 1) := by decide +kernel
theorem dX6_readLiteral_103 : decode cX6_readLiteral 103 = .ok (.invokevirtual 85, 3) := by decide +kernel
theorem dX6_readLiteral_106 : decode cX6_readLiteral 106 = .ok (.iload 4, 2) := by decide +kernel
theorem dX6_readLiteral_108 : decode cX6_readLiteral 108 = .ok (.ifCond .eq 9, 3) := by decide +kernel
theorem dX6_readLiteral_111 : decode cX6_readLiteral 111 = .ok (.iload 5, 2) := by decide +kernel
theorem dX6_readLiteral_113 : decode cX6_readLiteral 113 = .ok (.ineg, 1) := by decide +kernel
theorem dX6_readLiteral_114 : decode cX6_readLiteral 114 = .ok (.goto 5, 3) := by decide +kernel
theorem dX6_readLiteral_117 : decode cX6_readLiteral 117 = .ok (.iload 5, 2) := by decide +kernel
theorem dX6_readLiteral_119 : decode cX6_readLiteral 119 = .ok (.ireturn, 1) := by decide +kernel
theorem dX7_init_0 : decode cX7_init 0 = .ok (.aload_n 0, 1) := by decide +kernel
theorem dX7_init_1 : decode cX7_init 1 = .ok (.invokespecial 3, 3) := by decide +kernel
theorem dX7_init_4 : decode cX7_init 4 = .ok (.aload_n 0, 1) := by decide +kernel
theorem dX7_init_5 : decode cX7_init 5 = .ok (.bipush 64, 2) := by decide +kernel
theorem dX7_init_7 : decode cX7_init 7 = .ok (.newarray .long, 2) := by decide +kernel
theorem dX7_init_9 : decode cX7_init 9 = .ok (.putfield 11, 3) := by decide +kernel
theorem dX7_init_12 : decode cX7_init 12 = .ok (.return_, 1) := by decide +kernel
theorem dX7_sift_0 : decode cX7_sift 0 = .ok (.aload_n 0, 1) := by decide +kernel
theorem dX7_sift_1 : decode cX7_sift 1 = .ok (.aload_n 1, 1) := by decide +kernel
theorem dX7_sift_2 : decode cX7_sift 2 = .ok (.getfield 15, 3) := by decide +kernel
theorem dX7_sift_5 : decode cX7_sift 5 = .ok (.invokevirtual 21, 3) := by decide +kernel
theorem dX7_sift_8 : decode cX7_sift 8 = .ok (.aload_n 1, 1) := by decide +kernel
theorem dX7_sift_9 : decode cX7_sift 9 = .ok (.getfield 25, 3) := by decide +kernel
theorem dX7_sift_12 : decode cX7_sift 12 = .ok (.astore_n 2, 1) := by decide +kernel
theorem dX7_sift_13 : decode cX7_sift 13 = .ok (.iconst 0, 1) := by decide +kernel
theorem dX7_sift_14 : decode cX7_sift 14 = .ok (.istore_n 3, 1) := by decide +kernel
theorem dX7_sift_15 : decode cX7_sift 15 = .ok (.iload_n 3, 1) := by decide +kernel
theorem dX7_sift_16 : decode cX7_sift 16 = .ok (.aload_n 2, 1) := by decide +kernel
theorem dX7_sift_17 : decode cX7_sift 17 = .ok (.getfield 29, 3) := by decide +kernel
theorem dX7_sift_20 : decode cX7_sift 20 = .ok (.if_icmp .ge 33, 3) := by decide +kernel
theorem dX7_sift_23 : decode cX7_sift 23 = .ok (.aload_n 2, 1) := by decide +kernel
theorem dX7_sift_24 : decode cX7_sift 24 = .ok (.iload_n 3, 1) := by decide +kernel
theorem dX7_sift_25 : decode cX7_sift 25 = .ok (.invokevirtual 34, 3) := by decide +kernel
theorem dX7_sift_28 : decode cX7_sift 28 = .ok (.ifCond .ne 19, 3) := by decide +kernel
theorem dX7_sift_31 : decode cX7_sift 31 = .ok (.aload_n 0, 1) := by decide +kernel
theorem dX7_sift_32 : decode cX7_sift 32 = .ok (.aload_n 2, 1) := by decide +kernel
theorem dX7_sift_33 : decode cX7_sift 33 = .ok (.getfield 38, 3) := by decide +kernel
theorem dX7_sift_36 : decode cX7_sift 36 = .ok (.iload_n 3, 1) := by decide +kernel
theorem dX7_sift_37 : decode cX7_sift 37 = .ok (.iaload, 1) := by decide +kernel
theorem dX7_sift_38 : decode cX7_sift 38 = .ok (.aload_n 2, 1) := by decide +kernel
theorem dX7_sift_39 : decode cX7_sift 39 = .ok (.getfield 42, 3) := by decide +kernel
theorem dX7_sift_42 : decode cX7_sift 42 = .ok (.iload_n 3, 1) := by decide +kernel
theorem dX7_sift_43 : decode cX7_sift 43 = .ok (.iaload, 1) := by decide +kernel
theorem dX7_sift_44 : decode cX7_sift 44 = .ok (.invokevirtual 45, 3) := by decide +kernel
theorem dX7_sift_47 : decode cX7_sift 47 = .ok (.iinc 3 1, 3) := by decide +kernel
theorem dX7_sift_50 : decode cX7_sift 50 = .ok (.goto (-35), 3) := by decide +kernel
theorem dX7_sift_53 : decode cX7_sift 53 = .ok (.return_, 1) := by decide +kernel
theorem dX7_startWithAll_0 : decode cX7_startWithAll 0 = .ok (.iload_n 1, 1) := by decide +kernel
theorem dX7_startWithAll_1 : decode cX7_startWithAll 1 = .ok (.bipush 6, 2) := by decide +kernel
theorem dX7_startWithAll_3 : decode cX7_startWithAll 3 = .ok (.invokestatic 49, 3) := by decide +kernel
theorem dX7_startWithAll_6 : decode cX7_startWithAll 6 = .ok (.bipush 12, 2) := by decide +kernel
theorem dX7_startWithAll_8 : decode cX7_startWithAll 8 = .ok (.invokestatic 55, 3) := by decide +kernel
theorem dX7_startWithAll_11 : decode cX7_startWithAll 11 = .ok (.istore_n 2, 1) := by decide +kernel
theorem dX7_startWithAll_12 : decode cX7_startWithAll 12 = .ok (.aload_n 0, 1) := by decide +kernel
theorem dX7_startWithAll_13 : decode cX7_startWithAll 13 = .ok (.iconst 1, 1) := by decide +kernel
theorem dX7_startWithAll_14 : decode cX7_startWithAll 14 = .ok (.iload_n 2, 1) := by decide +kernel
theorem dX7_startWithAll_15 : decode cX7_startWithAll 15 = .ok (.bipush 6, 2) := by decide +kernel
theorem dX7_startWithAll_17 : decode cX7_startWithAll 17 = .ok (.isub, 1) := by decide +kernel
theorem dX7_startWithAll_18 : decode cX7_startWithAll 18 = .ok (.ishl, 1) := by decide +kernel
theorem dX7_startWithAll_19 : decode cX7_startWithAll 19 = .ok (.putfield 58, 3) := by decide +kernel
theorem dX7_startWithAll_22 : decode cX7_startWithAll 22 = .ok (.iload_n 1, 1) := by decide +kernel
theorem dX7_startWithAll_23 : decode cX7_startWithAll 23 = .ok (.bipush 6, 2) := by decide +kernel
theorem dX7_startWithAll_25 : decode cX7_startWithAll 25 = .ok (.if_icmp .lt 9, 3) := by decide +kernel
theorem dX7_startWithAll_28 : decode cX7_startWithAll 28 = .ok (.ldc2_w 61, 3) := by decide +kernel
theorem dX7_startWithAll_31 : decode cX7_startWithAll 31 = .ok (.goto 10, 3) := by decide +kernel
theorem dX7_startWithAll_34 : decode cX7_startWithAll 34 = .ok (.lconst 1, 1) := by decide +kernel
theorem dX7_startWithAll_35 : decode cX7_startWithAll 35 = .ok (.iconst 1, 1) := by decide +kernel
theorem dX7_startWithAll_36 : decode cX7_startWithAll 36 = .ok (.iload_n 1, 1) := by decide +kernel
theorem dX7_startWithAll_37 : decode cX7_startWithAll 37 = .ok (.ishl, 1) := by decide +kernel
theorem dX7_startWithAll_38 : decode cX7_startWithAll 38 = .ok (.lshl, 1) := by decide +kernel
theorem dX7_startWithAll_39 : decode cX7_startWithAll 39 = .ok (.lconst 1, 1) := by decide +kernel
theorem dX7_startWithAll_40 : decode cX7_startWithAll 40 = .ok (.lsub, 1) := by decide +kernel
theorem dX7_startWithAll_41 : decode cX7_startWithAll 41 = .ok (.lstore_n 3, 1) := by decide +kernel
theorem dX7_startWithAll_42 : decode cX7_startWithAll 42 = .ok (.aload_n 0, 1) := by decide +kernel
theorem dX7_startWithAll_43 : decode cX7_startWithAll 43 = .ok (.getfield 11, 3) := by decide +kernel
theorem dX7_startWithAll_46 : decode cX7_startWithAll 46 = .ok (.iconst 0, 1) := by decide +kernel
theorem dX7_startWithAll_47 : decode cX7_startWithAll 47 = .ok (.aload_n 0, 1) := by decide +kernel
theorem dX7_startWithAll_48 : decode cX7_startWithAll 48 = .ok (.getfield 58, 3) := by decide +kernel
theorem dX7_startWithAll_51 : decode cX7_startWithAll 51 = .ok (.lload_n 3, 1) := by decide +kernel
theorem dX7_startWithAll_52 : decode cX7_startWithAll 52 = .ok (.invokestatic 63, 3) := by decide +kernel
theorem dX7_startWithAll_55 : decode cX7_startWithAll 55 = .ok (.return_, 1) := by decide +kernel
theorem dX7_leaveThoseOf_0 : decode cX7_leaveThoseOf 0 = .ok (.iconst 0, 1) := by decide +kernel
theorem dX7_leaveThoseOf_1 : decode cX7_leaveThoseOf 1 = .ok (.istore_n 3, 1) := by decide +kernel
theorem dX7_leaveThoseOf_2 : decode cX7_leaveThoseOf 2 = .ok (.iload_n 3, 1) := by decide +kernel
theorem dX7_leaveThoseOf_3 : decode cX7_leaveThoseOf 3 = .ok (.aload_n 0, 1) := by decide +kernel
theorem dX7_leaveThoseOf_4 : decode cX7_leaveThoseOf 4 = .ok (.getfield 58, 3) := by decide +kernel
theorem dX7_leaveThoseOf_7 : decode cX7_leaveThoseOf 7 = .ok (.if_icmp .ge 88, 3) := by decide +kernel
theorem dX7_leaveThoseOf_10 : decode cX7_leaveThoseOf 10 = .ok (.lconst 0, 1) := by decide +kernel
theorem dX7_leaveThoseOf_11 : decode cX7_leaveThoseOf 11 = .ok (.lstore 4, 2) := by decide +kernel
theorem dX7_leaveThoseOf_13 : decode cX7_leaveThoseOf 13 = .ok (.iconst 1, 1) := by decide +kernel
theorem dX7_leaveThoseOf_14 : decode cX7_leaveThoseOf 14 = .ok (.istore 6, 2) := by decide +kernel
theorem dX7_leaveThoseOf_16 : decode cX7_leaveThoseOf 16 = .ok (.iload 6, 2) := by decide +kernel
theorem dX7_leaveThoseOf_18 : decode cX7_leaveThoseOf 18 = .ok (.bipush 12, 2) := by decide +kernel
theorem dX7_leaveThoseOf_20 : decode cX7_leaveThoseOf 20 = .ok (.if_icmp .gt 58, 3) := by decide +kernel
theorem dX7_leaveThoseOf_23 : decode cX7_leaveThoseOf 23 = .ok (.iload_n 1, 1) := by decide +kernel
theorem dX7_leaveThoseOf_24 : decode cX7_leaveThoseOf 24 = .ok (.iload 6, 2) := by decide +kernel
theorem dX7_leaveThoseOf_26 : decode cX7_leaveThoseOf 26 = .ok (.invokestatic 69, 3) := by decide +kernel
theorem dX7_leaveThoseOf_29 : decode cX7_leaveThoseOf 29 = .ok (.iand, 1) := by decide +kernel
theorem dX7_leaveThoseOf_30 : decode cX7_leaveThoseOf 30 = .ok (.ifCond .eq 17, 3) := by decide +kernel
theorem dX7_leaveThoseOf_33 : decode cX7_leaveThoseOf 33 = .ok (.lload 4, 2) := by decide +kernel
theorem dX7_leaveThoseOf_35 : decode cX7_leaveThoseOf 35 = .ok (.iload 6, 2) := by decide +kernel
theorem dX7_leaveThoseOf_37 : decode cX7_leaveThoseOf 37 = .ok (.iload_n 3, 1) := by decide +kernel
theorem dX7_leaveThoseOf_38 : decode cX7_leaveThoseOf 38 = .ok (.invokestatic 73, 3) := by decide +kernel
theorem dX7_leaveThoseOf_41 : decode cX7_leaveThoseOf 41 = .ok (.lor, 1) := by decide +kernel
theorem dX7_leaveThoseOf_42 : decode cX7_leaveThoseOf 42 = .ok (.lstore 4, 2) := by decide +kernel
theorem dX7_leaveThoseOf_44 : decode cX7_leaveThoseOf 44 = .ok (.goto 28, 3) := by decide +kernel
theorem dX7_leaveThoseOf_47 : decode cX7_leaveThoseOf 47 = .ok (.iload_n 2, 1) := by decide +kernel
theorem dX7_leaveThoseOf_48 : decode cX7_leaveThoseOf 48 = .ok (.iload 6, 2) := by decide +kernel
theorem dX7_leaveThoseOf_50 : decode cX7_leaveThoseOf 50 = .ok (.invokestatic 69, 3) := by decide +kernel
theorem dX7_leaveThoseOf_53 : decode cX7_leaveThoseOf 53 = .ok (.iand, 1) := by decide +kernel
theorem dX7_leaveThoseOf_54 : decode cX7_leaveThoseOf 54 = .ok (.ifCond .eq 18, 3) := by decide +kernel
theorem dX7_leaveThoseOf_57 : decode cX7_leaveThoseOf 57 = .ok (.lload 4, 2) := by decide +kernel
theorem dX7_leaveThoseOf_59 : decode cX7_leaveThoseOf 59 = .ok (.iload 6, 2) := by decide +kernel
theorem dX7_leaveThoseOf_61 : decode cX7_leaveThoseOf 61 = .ok (.iload_n 3, 1) := by decide +kernel
theorem dX7_leaveThoseOf_62 : decode cX7_leaveThoseOf 62 = .ok (.invokestatic 73, 3) := by decide +kernel
theorem dX7_leaveThoseOf_65 : decode cX7_leaveThoseOf 65 = .ok (.ldc2_w 61, 3) := by decide +kernel
theorem dX7_leaveThoseOf_68 : decode cX7_leaveThoseOf 68 = .ok (.lxor, 1) := by decide +kernel
theorem dX7_leaveThoseOf_69 : decode cX7_leaveThoseOf 69 = .ok (.lor, 1) := by decide +kernel
theorem dX7_leaveThoseOf_70 : decode cX7_leaveThoseOf 70 = .ok (.lstore 4, 2) := by decide +kernel
theorem dX7_leaveThoseOf_72 : decode cX7_leaveThoseOf 72 = .ok (.iinc 6 1, 3) := by decide +kernel
theorem dX7_leaveThoseOf_75 : decode cX7_leaveThoseOf 75 = .ok (.goto (-59), 3) := by decide +kernel
theorem dX7_leaveThoseOf_78 : decode cX7_leaveThoseOf 78 = .ok (.aload_n 0, 1) := by decide +kernel
theorem dX7_leaveThoseOf_79 : decode cX7_leaveThoseOf 79 = .ok (.getfield 11, 3) := by decide +kernel
theorem dX7_leaveThoseOf_82 : decode cX7_leaveThoseOf 82 = .ok (.iload_n 3, 1) := by decide +kernel
theorem dX7_leaveThoseOf_83 : decode cX7_leaveThoseOf 83 = .ok (.dup2, 1) := by decide +kernel
theorem dX7_leaveThoseOf_84 : decode cX7_leaveThoseOf 84 = .ok (.laload, 1) := by decide +kernel
theorem dX7_leaveThoseOf_85 : decode cX7_leaveThoseOf 85 = .ok (.lload 4, 2) := by decide +kernel
theorem dX7_leaveThoseOf_87 : decode cX7_leaveThoseOf 87 = .ok (.land, 1) := by decide +kernel
theorem dX7_leaveThoseOf_88 : decode cX7_leaveThoseOf 88 = .ok (.lastore, 1) := by decide +kernel
theorem dX7_leaveThoseOf_89 : decode cX7_leaveThoseOf 89 = .ok (.iinc 3 1, 3) := by decide +kernel
theorem dX7_leaveThoseOf_92 : decode cX7_leaveThoseOf 92 = .ok (.goto (-90), 3) := by decide +kernel
theorem dX7_leaveThoseOf_95 : decode cX7_leaveThoseOf 95 = .ok (.return_, 1) := by decide +kernel
theorem dX7_column_0 : decode cX7_column 0 = .ok (.iload_n 0, 1) := by decide +kernel
theorem dX7_column_1 : decode cX7_column 1 = .ok (.bipush 6, 2) := by decide +kernel
theorem dX7_column_3 : decode cX7_column 3 = .ok (.if_icmp .gt 11, 3) := by decide +kernel
theorem dX7_column_6 : decode cX7_column 6 = .ok (.getstatic 77, 3) := by decide +kernel
theorem dX7_column_9 : decode cX7_column 9 = .ok (.iload_n 0, 1) := by decide +kernel
theorem dX7_column_10 : decode cX7_column 10 = .ok (.iconst 1, 1) := by decide +kernel
theorem dX7_column_11 : decode cX7_column 11 = .ok (.isub, 1) := by decide +kernel
theorem dX7_column_12 : decode cX7_column 12 = .ok (.laload, 1) := by decide +kernel
theorem dX7_column_13 : decode cX7_column 13 = .ok (.lreturn, 1) := by decide +kernel
theorem dX7_column_14 : decode cX7_column 14 = .ok (.iload_n 1, 1) := by decide +kernel
theorem dX7_column_15 : decode cX7_column 15 = .ok (.iload_n 0, 1) := by decide +kernel
theorem dX7_column_16 : decode cX7_column 16 = .ok (.bipush 6, 2) := by decide +kernel
theorem dX7_column_18 : decode cX7_column 18 = .ok (.isub, 1) := by decide +kernel
theorem dX7_column_19 : decode cX7_column 19 = .ok (.iconst 1, 1) := by decide +kernel
theorem dX7_column_20 : decode cX7_column 20 = .ok (.isub, 1) := by decide +kernel
theorem dX7_column_21 : decode cX7_column 21 = .ok (.ishr, 1) := by decide +kernel
theorem dX7_column_22 : decode cX7_column 22 = .ok (.iconst 1, 1) := by decide +kernel
theorem dX7_column_23 : decode cX7_column 23 = .ok (.iand, 1) := by decide +kernel
theorem dX7_column_24 : decode cX7_column 24 = .ok (.ifCond .eq 9, 3) := by decide +kernel
theorem dX7_column_27 : decode cX7_column 27 = .ok (.ldc2_w 61, 3) := by decide +kernel
theorem dX7_column_30 : decode cX7_column 30 = .ok (.goto 4, 3) := by decide +kernel
theorem dX7_column_33 : decode cX7_column 33 = .ok (.lconst 0, 1) := by decide +kernel
theorem dX7_column_34 : decode cX7_column 34 = .ok (.lreturn, 1) := by decide +kernel
theorem dX7_howMany_0 : decode cX7_howMany 0 = .ok (.iconst 0, 1) := by decide +kernel
theorem dX7_howMany_1 : decode cX7_howMany 1 = .ok (.istore_n 1, 1) := by decide +kernel
theorem dX7_howMany_2 : decode cX7_howMany 2 = .ok (.iconst 0, 1) := by decide +kernel
theorem dX7_howMany_3 : decode cX7_howMany 3 = .ok (.istore_n 2, 1) := by decide +kernel
theorem dX7_howMany_4 : decode cX7_howMany 4 = .ok (.iload_n 2, 1) := by decide +kernel
theorem dX7_howMany_5 : decode cX7_howMany 5 = .ok (.aload_n 0, 1) := by decide +kernel
theorem dX7_howMany_6 : decode cX7_howMany 6 = .ok (.getfield 58, 3) := by decide +kernel
theorem dX7_howMany_9 : decode cX7_howMany 9 = .ok (.if_icmp .ge 21, 3) := by decide +kernel
theorem dX7_howMany_12 : decode cX7_howMany 12 = .ok (.iload_n 1, 1) := by decide +kernel
theorem dX7_howMany_13 : decode cX7_howMany 13 = .ok (.aload_n 0, 1) := by decide +kernel
theorem dX7_howMany_14 : decode cX7_howMany 14 = .ok (.getfield 11, 3) := by decide +kernel
theorem dX7_howMany_17 : decode cX7_howMany 17 = .ok (.iload_n 2, 1) := by decide +kernel
theorem dX7_howMany_18 : decode cX7_howMany 18 = .ok (.laload, 1) := by decide +kernel
theorem dX7_howMany_19 : decode cX7_howMany 19 = .ok (.invokestatic 80, 3) := by decide +kernel
theorem dX7_howMany_22 : decode cX7_howMany 22 = .ok (.iadd, 1) := by decide +kernel
theorem dX7_howMany_23 : decode cX7_howMany 23 = .ok (.istore_n 1, 1) := by decide +kernel
theorem dX7_howMany_24 : decode cX7_howMany 24 = .ok (.iinc 2 1, 3) := by decide +kernel
theorem dX7_howMany_27 : decode cX7_howMany 27 = .ok (.goto (-23), 3) := by decide +kernel
theorem dX7_howMany_30 : decode cX7_howMany 30 = .ok (.iload_n 1, 1) := by decide +kernel
theorem dX7_howMany_31 : decode cX7_howMany 31 = .ok (.ireturn, 1) := by decide +kernel
theorem dX7_allAlike_0 : decode cX7_allAlike 0 = .ok (.iconst 0, 1) := by decide +kernel
theorem dX7_allAlike_1 : decode cX7_allAlike 1 = .ok (.istore_n 3, 1) := by decide +kernel
theorem dX7_allAlike_2 : decode cX7_allAlike 2 = .ok (.iconst 1, 1) := by decide +kernel
theorem dX7_allAlike_3 : decode cX7_allAlike 3 = .ok (.istore 4, 2) := by decide +kernel
theorem dX7_allAlike_5 : decode cX7_allAlike 5 = .ok (.iload 4, 2) := by decide +kernel
theorem dX7_allAlike_7 : decode cX7_allAlike 7 = .ok (.iload_n 1, 1) := by decide +kernel
theorem dX7_allAlike_8 : decode cX7_allAlike 8 = .ok (.if_icmp .gt 31, 3) := by decide +kernel
theorem dX7_allAlike_11 : decode cX7_allAlike 11 = .ok (.iload_n 3, 1) := by decide +kernel
theorem dX7_allAlike_12 : decode cX7_allAlike 12 = .ok (.aload_n 0, 1) := by decide +kernel
theorem dX7_allAlike_13 : decode cX7_allAlike 13 = .ok (.iload 4, 2) := by decide +kernel
theorem dX7_allAlike_15 : decode cX7_allAlike 15 = .ok (.iload_n 2, 1) := by decide +kernel
theorem dX7_allAlike_16 : decode cX7_allAlike 16 = .ok (.invokevirtual 86, 3) := by decide +kernel
theorem dX7_allAlike_19 : decode cX7_allAlike 19 = .ok (.ifCond .eq 11, 3) := by decide +kernel
theorem dX7_allAlike_22 : decode cX7_allAlike 22 = .ok (.iload 4, 2) := by decide +kernel
theorem dX7_allAlike_24 : decode cX7_allAlike 24 = .ok (.invokestatic 69, 3) := by decide +kernel
theorem dX7_allAlike_27 : decode cX7_allAlike 27 = .ok (.goto 4, 3) := by decide +kernel
theorem dX7_allAlike_30 : decode cX7_allAlike 30 = .ok (.iconst 0, 1) := by decide +kernel
theorem dX7_allAlike_31 : decode cX7_allAlike 31 = .ok (.ior, 1) := by decide +kernel
theorem dX7_allAlike_32 : decode cX7_allAlike 32 = .ok (.istore_n 3, 1) := by decide +kernel
theorem dX7_allAlike_33 : decode cX7_allAlike 33 = .ok (.iinc 4 1, 3) := by decide +kernel
theorem dX7_allAlike_36 : decode cX7_allAlike 36 = .ok (.goto (-31), 3) := by decide +kernel
theorem dX7_allAlike_39 : decode cX7_allAlike 39 = .ok (.iload_n 3, 1) := by decide +kernel
theorem dX7_allAlike_40 : decode cX7_allAlike 40 = .ok (.ireturn, 1) := by decide +kernel
theorem dX7_isAlike_0 : decode cX7_isAlike 0 = .ok (.iconst 0, 1) := by decide +kernel
theorem dX7_isAlike_1 : decode cX7_isAlike 1 = .ok (.istore_n 3, 1) := by decide +kernel
theorem dX7_isAlike_2 : decode cX7_isAlike 2 = .ok (.iload_n 3, 1) := by decide +kernel
theorem dX7_isAlike_3 : decode cX7_isAlike 3 = .ok (.aload_n 0, 1) := by decide +kernel
theorem dX7_isAlike_4 : decode cX7_isAlike 4 = .ok (.getfield 58, 3) := by decide +kernel
theorem dX7_isAlike_7 : decode cX7_isAlike 7 = .ok (.if_icmp .ge 45, 3) := by decide +kernel
theorem dX7_isAlike_10 : decode cX7_isAlike 10 = .ok (.iload_n 1, 1) := by decide +kernel
theorem dX7_isAlike_11 : decode cX7_isAlike 11 = .ok (.iload_n 3, 1) := by decide +kernel
theorem dX7_isAlike_12 : decode cX7_isAlike 12 = .ok (.invokestatic 73, 3) := by decide +kernel
theorem dX7_isAlike_15 : decode cX7_isAlike 15 = .ok (.lstore 4, 2) := by decide +kernel
theorem dX7_isAlike_17 : decode cX7_isAlike 17 = .ok (.aload_n 0, 1) := by decide +kernel
theorem dX7_isAlike_18 : decode cX7_isAlike 18 = .ok (.getfield 11, 3) := by decide +kernel
theorem dX7_isAlike_21 : decode cX7_isAlike 21 = .ok (.iload_n 3, 1) := by decide +kernel
theorem dX7_isAlike_22 : decode cX7_isAlike 22 = .ok (.laload, 1) := by decide +kernel
theorem dX7_isAlike_23 : decode cX7_isAlike 23 = .ok (.iload_n 2, 1) := by decide +kernel
theorem dX7_isAlike_24 : decode cX7_isAlike 24 = .ok (.ifCond .eq 12, 3) := by decide +kernel
theorem dX7_isAlike_27 : decode cX7_isAlike 27 = .ok (.lload 4, 2) := by decide +kernel
theorem dX7_isAlike_29 : decode cX7_isAlike 29 = .ok (.ldc2_w 61, 3) := by decide +kernel
theorem dX7_isAlike_32 : decode cX7_isAlike 32 = .ok (.lxor, 1) := by decide +kernel
theorem dX7_isAlike_33 : decode cX7_isAlike 33 = .ok (.goto 5, 3) := by decide +kernel
theorem dX7_isAlike_36 : decode cX7_isAlike 36 = .ok (.lload 4, 2) := by decide +kernel
theorem dX7_isAlike_38 : decode cX7_isAlike 38 = .ok (.land, 1) := by decide +kernel
theorem dX7_isAlike_39 : decode cX7_isAlike 39 = .ok (.lconst 0, 1) := by decide +kernel
theorem dX7_isAlike_40 : decode cX7_isAlike 40 = .ok (.lcmp, 1) := by decide +kernel
theorem dX7_isAlike_41 : decode cX7_isAlike 41 = .ok (.ifCond .eq 5, 3) := by decide +kernel
theorem dX7_isAlike_44 : decode cX7_isAlike 44 = .ok (.iconst 0, 1) := by decide +kernel
theorem dX7_isAlike_45 : decode cX7_isAlike 45 = .ok (.ireturn, 1) := by decide +kernel
theorem dX7_isAlike_46 : decode cX7_isAlike 46 = .ok (.iinc 3 1, 3) := by decide +kernel
theorem dX7_isAlike_49 : decode cX7_isAlike 49 = .ok (.goto (-47), 3) := by decide +kernel
theorem dX7_isAlike_52 : decode cX7_isAlike 52 = .ok (.iconst 1, 1) := by decide +kernel
theorem dX7_isAlike_53 : decode cX7_isAlike 53 = .ok (.ireturn, 1) := by decide +kernel
theorem dX8_init_0 : decode cX8_init 0 = .ok (.aload_n 0, 1) := by decide +kernel
theorem dX8_init_1 : decode cX8_init 1 = .ok (.invokespecial 1, 3) := by decide +kernel
theorem dX8_init_4 : decode cX8_init 4 = .ok (.aload_n 0, 1) := by decide +kernel
theorem dX8_init_5 : decode cX8_init 5 = .ok (.new 7, 3) := by decide +kernel
theorem dX8_init_8 : decode cX8_init 8 = .ok (.dup, 1) := by decide +kernel
theorem dX8_init_9 : decode cX8_init 9 = .ok (.invokespecial 9, 3) := by decide +kernel
theorem dX8_init_12 : decode cX8_init 12 = .ok (.putfield 10, 3) := by decide +kernel
theorem dX8_init_15 : decode cX8_init 15 = .ok (.aload_n 0, 1) := by decide +kernel
theorem dX8_init_16 : decode cX8_init 16 = .ok (.iconst 2, 1) := by decide +kernel
theorem dX8_init_17 : decode cX8_init 17 = .ok (.anewarray 7, 3) := by decide +kernel
theorem dX8_init_20 : decode cX8_init 20 = .ok (.putfield 16, 3) := by decide +kernel
theorem dX8_init_23 : decode cX8_init 23 = .ok (.aload_n 0, 1) := by decide +kernel
theorem dX8_init_24 : decode cX8_init 24 = .ok (.new 20, 3) := by decide +kernel
theorem dX8_init_27 : decode cX8_init 27 = .ok (.dup, 1) := by decide +kernel
theorem dX8_init_28 : decode cX8_init 28 = .ok (.aload_n 0, 1) := by decide +kernel
theorem dX8_init_29 : decode cX8_init 29 = .ok (.getfield 10, 3) := by decide +kernel
theorem dX8_init_32 : decode cX8_init 32 = .ok (.invokespecial 22, 3) := by decide +kernel
theorem dX8_init_35 : decode cX8_init 35 = .ok (.putfield 25, 3) := by decide +kernel
theorem dX8_init_38 : decode cX8_init 38 = .ok (.aload_n 0, 1) := by decide +kernel
theorem dX8_init_39 : decode cX8_init 39 = .ok (.new 29, 3) := by decide +kernel
theorem dX8_init_42 : decode cX8_init 42 = .ok (.dup, 1) := by decide +kernel
theorem dX8_init_43 : decode cX8_init 43 = .ok (.invokespecial 31, 3) := by decide +kernel
theorem dX8_init_46 : decode cX8_init 46 = .ok (.putfield 32, 3) := by decide +kernel
theorem dX8_init_49 : decode cX8_init 49 = .ok (.aload_n 0, 1) := by decide +kernel
theorem dX8_init_50 : decode cX8_init 50 = .ok (.new 36, 3) := by decide +kernel
theorem dX8_init_53 : decode cX8_init 53 = .ok (.dup, 1) := by decide +kernel
theorem dX8_init_54 : decode cX8_init 54 = .ok (.invokespecial 38, 3) := by decide +kernel
theorem dX8_init_57 : decode cX8_init 57 = .ok (.putfield 39, 3) := by decide +kernel
theorem dX8_init_60 : decode cX8_init 60 = .ok (.aload_n 0, 1) := by decide +kernel
theorem dX8_init_61 : decode cX8_init 61 = .ok (.new 43, 3) := by decide +kernel
theorem dX8_init_64 : decode cX8_init 64 = .ok (.dup, 1) := by decide +kernel
theorem dX8_init_65 : decode cX8_init 65 = .ok (.aload_n 0, 1) := by decide +kernel
theorem dX8_init_66 : decode cX8_init 66 = .ok (.getfield 39, 3) := by decide +kernel
theorem dX8_init_69 : decode cX8_init 69 = .ok (.aload_n 0, 1) := by decide +kernel
theorem dX8_init_70 : decode cX8_init 70 = .ok (.getfield 10, 3) := by decide +kernel
theorem dX8_init_73 : decode cX8_init 73 = .ok (.invokespecial 45, 3) := by decide +kernel
theorem dX8_init_76 : decode cX8_init 76 = .ok (.putfield 48, 3) := by decide +kernel
theorem dX8_init_79 : decode cX8_init 79 = .ok (.aload_n 0, 1) := by decide +kernel
theorem dX8_init_80 : decode cX8_init 80 = .ok (.new 52, 3) := by decide +kernel
theorem dX8_init_83 : decode cX8_init 83 = .ok (.dup, 1) := by decide +kernel
theorem dX8_init_84 : decode cX8_init 84 = .ok (.invokespecial 54, 3) := by decide +kernel
theorem dX8_init_87 : decode cX8_init 87 = .ok (.putfield 55, 3) := by decide +kernel
theorem dX8_init_90 : decode cX8_init 90 = .ok (.return_, 1) := by decide +kernel
theorem dX8_feed_0 : decode cX8_feed 0 = .ok (.aload_n 0, 1) := by decide +kernel
theorem dX8_feed_1 : decode cX8_feed 1 = .ok (.getfield 39, 3) := by decide +kernel
theorem dX8_feed_4 : decode cX8_feed 4 = .ok (.getfield 59, 3) := by decide +kernel
theorem dX8_feed_7 : decode cX8_feed 7 = .ok (.bipush 20, 2) := by decide +kernel
theorem dX8_feed_9 : decode cX8_feed 9 = .ok (.iadd, 1) := by decide +kernel
theorem dX8_feed_10 : decode cX8_feed 10 = .ok (.sipush 400, 3) := by decide +kernel
theorem dX8_feed_13 : decode cX8_feed 13 = .ok (.if_icmp .le 5, 3) := by decide +kernel
theorem dX8_feed_16 : decode cX8_feed 16 = .ok (.iconst (-1), 1) := by decide +kernel
theorem dX8_feed_17 : decode cX8_feed 17 = .ok (.ireturn, 1) := by decide +kernel
theorem dX8_feed_18 : decode cX8_feed 18 = .ok (.aload_n 0, 1) := by decide +kernel
theorem dX8_feed_19 : decode cX8_feed 19 = .ok (.getfield 39, 3) := by decide +kernel
theorem dX8_feed_22 : decode cX8_feed 22 = .ok (.iload_n 1, 1) := by decide +kernel
theorem dX8_feed_23 : decode cX8_feed 23 = .ok (.invokevirtual 63, 3) := by decide +kernel
theorem dX8_feed_26 : decode cX8_feed 26 = .ok (.aload_n 0, 1) := by decide +kernel
theorem dX8_feed_27 : decode cX8_feed 27 = .ok (.getfield 39, 3) := by decide +kernel
theorem dX8_feed_30 : decode cX8_feed 30 = .ok (.iload_n 2, 1) := by decide +kernel
theorem dX8_feed_31 : decode cX8_feed 31 = .ok (.invokevirtual 63, 3) := by decide +kernel
theorem dX8_feed_34 : decode cX8_feed 34 = .ok (.aload_n 0, 1) := by decide +kernel
theorem dX8_feed_35 : decode cX8_feed 35 = .ok (.getfield 39, 3) := by decide +kernel
theorem dX8_feed_38 : decode cX8_feed 38 = .ok (.iload_n 3, 1) := by decide +kernel
theorem dX8_feed_39 : decode cX8_feed 39 = .ok (.invokevirtual 63, 3) := by decide +kernel
theorem dX8_feed_42 : decode cX8_feed 42 = .ok (.aload_n 0, 1) := by decide +kernel
theorem dX8_feed_43 : decode cX8_feed 43 = .ok (.getfield 39, 3) := by decide +kernel
theorem dX8_feed_46 : decode cX8_feed 46 = .ok (.iload 4, 2) := by decide +kernel
theorem dX8_feed_48 : decode cX8_feed 48 = .ok (.invokevirtual 63, 3) := by decide +kernel
theorem dX8_feed_51 : decode cX8_feed 51 = .ok (.aload_n 0, 1) := by decide +kernel
theorem dX8_feed_52 : decode cX8_feed 52 = .ok (.getfield 39, 3) := by decide +kernel
theorem dX8_feed_55 : decode cX8_feed 55 = .ok (.iload 5, 2) := by decide +kernel
theorem dX8_feed_57 : decode cX8_feed 57 = .ok (.invokevirtual 63, 3) := by decide +kernel
theorem dX8_feed_60 : decode cX8_feed 60 = .ok (.aload_n 0, 1) := by decide +kernel
theorem dX8_feed_61 : decode cX8_feed 61 = .ok (.getfield 39, 3) := by decide +kernel
theorem dX8_feed_64 : decode cX8_feed 64 = .ok (.getfield 59, 3) := by decide +kernel
theorem dX8_feed_67 : decode cX8_feed 67 = .ok (.ireturn, 1) := by decide +kernel
theorem dX8_end_0 : decode cX8_end 0 = .ok (.iload_n 1, 1) := by decide +kernel
theorem dX8_end_1 : decode cX8_end 1 = .ok (.ifCond .lt 14, 3) := by decide +kernel
theorem dX8_end_4 : decode cX8_end 4 = .ok (.iload_n 1, 1) := by decide +kernel
theorem dX8_end_5 : decode cX8_end 5 = .ok (.aload_n 0, 1) := by decide +kernel
theorem dX8_end_6 : decode cX8_end 6 = .ok (.getfield 39, 3) := by decide +kernel
theorem dX8_end_9 : decode cX8_end 9 = .ok (.getfield 59, 3) := by decide +kernel
theorem dX8_end_12 : decode cX8_end 12 = .ok (.if_icmp .le 5, 3) := by decide +kernel
theorem dX8_end_15 : decode cX8_end 15 = .ok (.iconst 0, 1) := by decide +kernel
theorem dX8_end_16 : decode cX8_end 16 = .ok (.ireturn, 1) := by decide +kernel
theorem dX8_end_17 : decode cX8_end 17 = .ok (.aload_n 0, 1) := by decide +kernel
theorem dX8_end_18 : decode cX8_end 18 = .ok (.getfield 39, 3) := by decide +kernel
theorem dX8_end_21 : decode cX8_end 21 = .ok (.iload_n 1, 1) := by decide +kernel
theorem dX8_end_22 : decode cX8_end 22 = .ok (.putfield 59, 3) := by decide +kernel
theorem dX8_end_25 : decode cX8_end 25 = .ok (.iconst 1, 1) := by decide +kernel
theorem dX8_end_26 : decode cX8_end 26 = .ok (.ireturn, 1) := by decide +kernel
theorem dX8_tell_0 : decode cX8_tell 0 = .ok (.aload_n 0, 1) := by decide +kernel
theorem dX8_tell_1 : decode cX8_tell 1 = .ok (.getfield 39, 3) := by decide +kernel
theorem dX8_tell_4 : decode cX8_tell 4 = .ok (.invokevirtual 67, 3) := by decide +kernel
theorem dX8_tell_7 : decode cX8_tell 7 = .ok (.aload_n 0, 1) := by decide +kernel
theorem dX8_tell_8 : decode cX8_tell 8 = .ok (.getfield 39, 3) := by decide +kernel
theorem dX8_tell_11 : decode cX8_tell 11 = .ok (.iconst 0, 1) := by decide +kernel
theorem dX8_tell_12 : decode cX8_tell 12 = .ok (.putfield 59, 3) := by decide +kernel
theorem dX8_tell_15 : decode cX8_tell 15 = .ok (.aload_n 0, 1) := by decide +kernel
theorem dX8_tell_16 : decode cX8_tell 16 = .ok (.getfield 48, 3) := by decide +kernel
theorem dX8_tell_19 : decode cX8_tell 19 = .ok (.iconst 0, 1) := by decide +kernel
theorem dX8_tell_20 : decode cX8_tell 20 = .ok (.invokevirtual 70, 3) := by decide +kernel
theorem dX8_tell_23 : decode cX8_tell 23 = .ok (.iconst (-1), 1) := by decide +kernel
theorem dX8_tell_24 : decode cX8_tell 24 = .ok (.if_icmp .ne 7, 3) := by decide +kernel
theorem dX8_tell_27 : decode cX8_tell 27 = .ok (.iconst (-1), 1) := by decide +kernel
theorem dX8_tell_28 : decode cX8_tell 28 = .ok (.goto 11, 3) := by decide +kernel
theorem dX8_tell_31 : decode cX8_tell 31 = .ok (.aload_n 0, 1) := by decide +kernel
theorem dX8_tell_32 : decode cX8_tell 32 = .ok (.getfield 48, 3) := by decide +kernel
theorem dX8_tell_35 : decode cX8_tell 35 = .ok (.iconst 1, 1) := by decide +kernel
theorem dX8_tell_36 : decode cX8_tell 36 = .ok (.invokevirtual 70, 3) := by decide +kernel
theorem dX8_tell_39 : decode cX8_tell 39 = .ok (.ireturn, 1) := by decide +kernel
theorem dX8_fault_0 : decode cX8_fault 0 = .ok (.aload_n 0, 1) := by decide +kernel
theorem dX8_fault_1 : decode cX8_fault 1 = .ok (.getfield 39, 3) := by decide +kernel
theorem dX8_fault_4 : decode cX8_fault 4 = .ok (.getfield 74, 3) := by decide +kernel
theorem dX8_fault_7 : decode cX8_fault 7 = .ok (.ireturn, 1) := by decide +kernel
theorem dX8_grow_0 : decode cX8_grow 0 = .ok (.iload_n 1, 1) := by decide +kernel
theorem dX8_grow_1 : decode cX8_grow 1 = .ok (.iconst 1, 1) := by decide +kernel
theorem dX8_grow_2 : decode cX8_grow 2 = .ok (.if_icmp .lt 17, 3) := by decide +kernel
theorem dX8_grow_5 : decode cX8_grow 5 = .ok (.iload_n 1, 1) := by decide +kernel
theorem dX8_grow_6 : decode cX8_grow 6 = .ok (.bipush 30, 2) := by decide +kernel
theorem dX8_grow_8 : decode cX8_grow 8 = .ok (.aload_n 0, 1) := by decide +kernel
theorem dX8_grow_9 : decode cX8_grow 9 = .ok (.getfield 10, 3) := by decide +kernel
theorem dX8_grow_12 : decode cX8_grow 12 = .ok (.getfield 77, 3) := by decide +kernel
theorem dX8_grow_15 : decode cX8_grow 15 = .ok (.isub, 1) := by decide +kernel
theorem dX8_grow_16 : decode cX8_grow 16 = .ok (.if_icmp .le 5, 3) := by decide +kernel
theorem dX8_grow_19 : decode cX8_grow 19 = .ok (.iconst (-1), 1) := by decide +kernel
theorem dX8_grow_20 : decode cX8_grow 20 = .ok (.ireturn, 1) := by decide +kernel
theorem dX8_grow_21 : decode cX8_grow 21 = .ok (.aload_n 0, 1) := by decide +kernel
theorem dX8_grow_22 : decode cX8_grow 22 = .ok (.getfield 10, 3) := by decide +kernel
theorem dX8_grow_25 : decode cX8_grow 25 = .ok (.dup, 1) := by decide +kernel
theorem dX8_grow_26 : decode cX8_grow 26 = .ok (.getfield 77, 3) := by decide +kernel
theorem dX8_grow_29 : decode cX8_grow 29 = .ok (.iload_n 1, 1) := by decide +kernel
theorem dX8_grow_30 : decode cX8_grow 30 = .ok (.iadd, 1) := by decide +kernel
theorem dX8_grow_31 : decode cX8_grow 31 = .ok (.putfield 77, 3) := by decide +kernel
theorem dX8_grow_34 : decode cX8_grow 34 = .ok (.aload_n 0, 1) := by decide +kernel
theorem dX8_grow_35 : decode cX8_grow 35 = .ok (.getfield 10, 3) := by decide +kernel
theorem dX8_grow_38 : decode cX8_grow 38 = .ok (.getfield 77, 3) := by decide +kernel
theorem dX8_grow_41 : decode cX8_grow 41 = .ok (.ireturn, 1) := by decide +kernel
theorem dX8_add_0 : decode cX8_add 0 = .ok (.aload_n 0, 1) := by decide +kernel
theorem dX8_add_1 : decode cX8_add 1 = .ok (.aload_n 0, 1) := by decide +kernel
theorem dX8_add_2 : decode cX8_add 2 = .ok (.getfield 10, 3) := by decide +kernel
theorem dX8_add_5 : decode cX8_add 5 = .ok (.getfield 80, 3) := by decide +kernel
theorem dX8_add_8 : decode cX8_add 8 = .ok (.iload_n 1, 1) := by decide +kernel
theorem dX8_add_9 : decode cX8_add 9 = .ok (.invokevirtual 84, 3) := by decide +kernel
theorem dX8_add_12 : decode cX8_add 12 = .ok (.ireturn, 1) := by decide +kernel
theorem dX8_close_0 : decode cX8_close 0 = .ok (.aload_n 0, 1) := by decide +kernel
theorem dX8_close_1 : decode cX8_close 1 = .ok (.getfield 10, 3) := by decide +kernel
theorem dX8_close_4 : decode cX8_close 4 = .ok (.getfield 80, 3) := by decide +kernel
theorem dX8_close_7 : decode cX8_close 7 = .ok (.getfield 88, 3) := by decide +kernel
theorem dX8_close_10 : decode cX8_close 10 = .ok (.ifCond .eq 16, 3) := by decide +kernel
theorem dX8_close_13 : decode cX8_close 13 = .ok (.aload_n 0, 1) := by decide +kernel
theorem dX8_close_14 : decode cX8_close 14 = .ok (.getfield 10, 3) := by decide +kernel
theorem dX8_close_17 : decode cX8_close 17 = .ok (.getfield 91, 3) := by decide +kernel
theorem dX8_close_20 : decode cX8_close 20 = .ok (.invokevirtual 95, 3) := by decide +kernel
theorem dX8_close_23 : decode cX8_close 23 = .ok (.ifCond .eq 5, 3) := by decide +kernel
theorem dX8_close_26 : decode cX8_close 26 = .ok (.iconst (-1), 1) := by decide +kernel
theorem dX8_close_27 : decode cX8_close 27 = .ok (.ireturn, 1) := by decide +kernel
theorem dX8_close_28 : decode cX8_close 28 = .ok (.aload_n 0, 1) := by decide +kernel
theorem dX8_close_29 : decode cX8_close 29 = .ok (.getfield 10, 3) := by decide +kernel
theorem dX8_close_32 : decode cX8_close 32 = .ok (.getfield 91, 3) := by decide +kernel
theorem dX8_close_35 : decode cX8_close 35 = .ok (.aload_n 0, 1) := by decide +kernel
theorem dX8_close_36 : decode cX8_close 36 = .ok (.getfield 10, 3) := by decide +kernel
theorem dX8_close_39 : decode cX8_close 39 = .ok (.getfield 80, 3) := by decide +kernel
theorem dX8_close_42 : decode cX8_close 42 = .ok (.iconst 0, 1) := by decide +kernel
theorem dX8_close_43 : decode cX8_close 43 = .ok (.invokevirtual 101, 3) := by decide +kernel
theorem dX8_close_46 : decode cX8_close 46 = .ok (.istore_n 1, 1) := by decide +kernel
theorem dX8_close_47 : decode cX8_close 47 = .ok (.aload_n 0, 1) := by decide +kernel
theorem dX8_close_48 : decode cX8_close 48 = .ok (.getfield 10, 3) := by decide +kernel
theorem dX8_close_51 : decode cX8_close 51 = .ok (.getfield 80, 3) := by decide +kernel
theorem dX8_close_54 : decode cX8_close 54 = .ok (.invokevirtual 105, 3) := by decide +kernel
theorem dX8_close_57 : decode cX8_close 57 = .ok (.iload_n 1, 1) := by decide +kernel
theorem dX8_close_58 : decode cX8_close 58 = .ok (.ireturn, 1) := by decide +kernel
theorem dX8_assume_0 : decode cX8_assume 0 = .ok (.aload_n 0, 1) := by decide +kernel
theorem dX8_assume_1 : decode cX8_assume 1 = .ok (.aload_n 0, 1) := by decide +kernel
theorem dX8_assume_2 : decode cX8_assume 2 = .ok (.getfield 10, 3) := by decide +kernel
theorem dX8_assume_5 : decode cX8_assume 5 = .ok (.getfield 108, 3) := by decide +kernel
theorem dX8_assume_8 : decode cX8_assume 8 = .ok (.iload_n 1, 1) := by decide +kernel
theorem dX8_assume_9 : decode cX8_assume 9 = .ok (.invokevirtual 84, 3) := by decide +kernel
theorem dX8_assume_12 : decode cX8_assume 12 = .ok (.ireturn, 1) := by decide +kernel
theorem dX8_free_0 : decode cX8_free 0 = .ok (.aload_n 0, 1) := by decide +kernel
theorem dX8_free_1 : decode cX8_free 1 = .ok (.getfield 10, 3) := by decide +kernel
theorem dX8_free_4 : decode cX8_free 4 = .ok (.getfield 108, 3) := by decide +kernel
theorem dX8_free_7 : decode cX8_free 7 = .ok (.getfield 88, 3) := by decide +kernel
theorem dX8_free_10 : decode cX8_free 10 = .ok (.istore_n 1, 1) := by decide +kernel
theorem dX8_free_11 : decode cX8_free 11 = .ok (.aload_n 0, 1) := by decide +kernel
theorem dX8_free_12 : decode cX8_free 12 = .ok (.getfield 10, 3) := by decide +kernel
theorem dX8_free_15 : decode cX8_free 15 = .ok (.getfield 108, 3) := by decide +kernel
theorem dX8_free_18 : decode cX8_free 18 = .ok (.invokevirtual 105, 3) := by decide +kernel
theorem dX8_free_21 : decode cX8_free 21 = .ok (.iload_n 1, 1) := by decide +kernel
theorem dX8_free_22 : decode cX8_free 22 = .ok (.ireturn, 1) := by decide +kernel
theorem dX8_phase_0 : decode cX8_phase 0 = .ok (.aload_n 0, 1) := by decide +kernel
theorem dX8_phase_1 : decode cX8_phase 1 = .ok (.getfield 10, 3) := by decide +kernel
theorem dX8_phase_4 : decode cX8_phase 4 = .ok (.iload_n 1, 1) := by decide +kernel
theorem dX8_phase_5 : decode cX8_phase 5 = .ok (.invokevirtual 111, 3) := by decide +kernel
theorem dX8_phase_8 : decode cX8_phase 8 = .ok (.ifCond .eq 26, 3) := by decide +kernel
theorem dX8_phase_11 : decode cX8_phase 11 = .ok (.aload_n 0, 1) := by decide +kernel
theorem dX8_phase_12 : decode cX8_phase 12 = .ok (.getfield 10, 3) := by decide +kernel
theorem dX8_phase_15 : decode cX8_phase 15 = .ok (.iload_n 1, 1) := by decide +kernel
theorem dX8_phase_16 : decode cX8_phase 16 = .ok (.invokestatic 115, 3) := by decide +kernel
theorem dX8_phase_19 : decode cX8_phase 19 = .ok (.invokevirtual 119, 3) := by decide +kernel
theorem dX8_phase_22 : decode cX8_phase 22 = .ok (.iload_n 1, 1) := by decide +kernel
theorem dX8_phase_23 : decode cX8_phase 23 = .ok (.ifCond .le 7, 3) := by decide +kernel
theorem dX8_phase_26 : decode cX8_phase 26 = .ok (.iconst 1, 1) := by decide +kernel
theorem dX8_phase_27 : decode cX8_phase 27 = .ok (.goto 4, 3) := by decide +kernel
theorem dX8_phase_30 : decode cX8_phase 30 = .ok (.iconst 0, 1) := by decide +kernel
theorem dX8_phase_31 : decode cX8_phase 31 = .ok (.if_icmp .ne 5, 3) := by decide +kernel
theorem dX8_phase_34 : decode cX8_phase 34 = .ok (.iconst 0, 1) := by decide +kernel
theorem dX8_phase_35 : decode cX8_phase 35 = .ok (.ireturn, 1) := by decide +kernel
theorem dX8_phase_36 : decode cX8_phase 36 = .ok (.aload_n 0, 1) := by decide +kernel
theorem dX8_phase_37 : decode cX8_phase 37 = .ok (.getfield 10, 3) := by decide +kernel
theorem dX8_phase_40 : decode cX8_phase 40 = .ok (.iload_n 1, 1) := by decide +kernel
theorem dX8_phase_41 : decode cX8_phase 41 = .ok (.invokevirtual 122, 3) := by decide +kernel
theorem dX8_phase_44 : decode cX8_phase 44 = .ok (.iconst 1, 1) := by decide +kernel
theorem dX8_phase_45 : decode cX8_phase 45 = .ok (.ireturn, 1) := by decide +kernel
theorem dX8_unit_0 : decode cX8_unit 0 = .ok (.iload_n 1, 1) := by decide +kernel
theorem dX8_unit_1 : decode cX8_unit 1 = .ok (.ifCond .lt 20, 3) := by decide +kernel
theorem dX8_unit_4 : decode cX8_unit 4 = .ok (.iload_n 1, 1) := by decide +kernel
theorem dX8_unit_5 : decode cX8_unit 5 = .ok (.bipush 50, 2) := by decide +kernel
theorem dX8_unit_7 : decode cX8_unit 7 = .ok (.if_icmp .gt 14, 3) := by decide +kernel
theorem dX8_unit_10 : decode cX8_unit 10 = .ok (.iload_n 1, 1) := by decide +kernel
theorem dX8_unit_11 : decode cX8_unit 11 = .ok (.aload_n 0, 1) := by decide +kernel
theorem dX8_unit_12 : decode cX8_unit 12 = .ok (.getfield 10, 3) := by decide +kernel
theorem dX8_unit_15 : decode cX8_unit 15 = .ok (.getfield 125, 3) := by decide +kernel
theorem dX8_unit_18 : decode cX8_unit 18 = .ok (.if_icmp .ne 5, 3) := by decide +kernel
theorem dX8_unit_21 : decode cX8_unit 21 = .ok (.iconst 0, 1) := by decide +kernel
theorem dX8_unit_22 : decode cX8_unit 22 = .ok (.ireturn, 1) := by decide +kernel
theorem dX8_unit_23 : decode cX8_unit 23 = .ok (.aload_n 0, 1) := by decide +kernel
theorem dX8_unit_24 : decode cX8_unit 24 = .ok (.getfield 10, 3) := by decide +kernel
theorem dX8_unit_27 : decode cX8_unit 27 = .ok (.iload_n 1, 1) := by decide +kernel
theorem dX8_unit_28 : decode cX8_unit 28 = .ok (.putfield 125, 3) := by decide +kernel
theorem dX8_unit_31 : decode cX8_unit 31 = .ok (.iconst 1, 1) := by decide +kernel
theorem dX8_unit_32 : decode cX8_unit 32 = .ok (.ireturn, 1) := by decide +kernel
theorem dX8_forget_0 : decode cX8_forget 0 = .ok (.iload_n 1, 1) := by decide +kernel
theorem dX8_forget_1 : decode cX8_forget 1 = .ok (.iconst 1, 1) := by decide +kernel
theorem dX8_forget_2 : decode cX8_forget 2 = .ok (.if_icmp .lt 9, 3) := by decide +kernel
theorem dX8_forget_5 : decode cX8_forget 5 = .ok (.iload_n 1, 1) := by decide +kernel
theorem dX8_forget_6 : decode cX8_forget 6 = .ok (.bipush 30, 2) := by decide +kernel
theorem dX8_forget_8 : decode cX8_forget 8 = .ok (.if_icmp .le 5, 3) := by decide +kernel
theorem dX8_forget_11 : decode cX8_forget 11 = .ok (.iconst (-1), 1) := by decide +kernel
theorem dX8_forget_12 : decode cX8_forget 12 = .ok (.ireturn, 1) := by decide +kernel
theorem dX8_forget_13 : decode cX8_forget 13 = .ok (.aload_n 0, 1) := by decide +kernel
theorem dX8_forget_14 : decode cX8_forget 14 = .ok (.getfield 10, 3) := by decide +kernel
theorem dX8_forget_17 : decode cX8_forget 17 = .ok (.getfield 91, 3) := by decide +kernel
theorem dX8_forget_20 : decode cX8_forget 20 = .ok (.iload_n 1, 1) := by decide +kernel
theorem dX8_forget_21 : decode cX8_forget 21 = .ok (.invokevirtual 128, 3) := by decide +kernel
theorem dX8_forget_24 : decode cX8_forget 24 = .ok (.ireturn, 1) := by decide +kernel
theorem dX8_keep_0 : decode cX8_keep 0 = .ok (.iload_n 1, 1) := by decide +kernel
theorem dX8_keep_1 : decode cX8_keep 1 = .ok (.ifCond .lt 8, 3) := by decide +kernel
theorem dX8_keep_4 : decode cX8_keep 4 = .ok (.iload_n 1, 1) := by decide +kernel
theorem dX8_keep_5 : decode cX8_keep 5 = .ok (.iconst 2, 1) := by decide +kernel
theorem dX8_keep_6 : decode cX8_keep 6 = .ok (.if_icmp .lt 5, 3) := by decide +kernel
theorem dX8_keep_9 : decode cX8_keep 9 = .ok (.iconst 0, 1) := by decide +kernel
theorem dX8_keep_10 : decode cX8_keep 10 = .ok (.ireturn, 1) := by decide +kernel
theorem dX8_keep_11 : decode cX8_keep 11 = .ok (.aload_n 0, 1) := by decide +kernel
theorem dX8_keep_12 : decode cX8_keep 12 = .ok (.getfield 16, 3) := by decide +kernel
theorem dX8_keep_15 : decode cX8_keep 15 = .ok (.iload_n 1, 1) := by decide +kernel
theorem dX8_keep_16 : decode cX8_keep 16 = .ok (.aaload, 1) := by decide +kernel
theorem dX8_keep_17 : decode cX8_keep 17 = .ok (.astore_n 2, 1) := by decide +kernel
theorem dX8_keep_18 : decode cX8_keep 18 = .ok (.aload_n 2, 1) := by decide +kernel
theorem dX8_keep_19 : decode cX8_keep 19 = .ok (.ifnonnull 18, 3) := by decide +kernel
theorem dX8_keep_22 : decode cX8_keep 22 = .ok (.new 7, 3) := by decide +kernel
theorem dX8_keep_25 : decode cX8_keep 25 = .ok (.dup, 1) := by decide +kernel
theorem dX8_keep_26 : decode cX8_keep 26 = .ok (.invokespecial 9, 3) := by decide +kernel
theorem dX8_keep_29 : decode cX8_keep 29 = .ok (.astore_n 2, 1) := by decide +kernel
theorem dX8_keep_30 : decode cX8_keep 30 = .ok (.aload_n 0, 1) := by decide +kernel
theorem dX8_keep_31 : decode cX8_keep 31 = .ok (.getfield 16, 3) := by decide +kernel
theorem dX8_keep_34 : decode cX8_keep 34 = .ok (.iload_n 1, 1) := by decide +kernel
theorem dX8_keep_35 : decode cX8_keep 35 = .ok (.aload_n 2, 1) := by decide +kernel
theorem dX8_keep_36 : decode cX8_keep 36 = .ok (.aastore, 1) := by decide +kernel
theorem dX8_keep_37 : decode cX8_keep 37 = .ok (.aload_n 2, 1) := by decide +kernel
theorem dX8_keep_38 : decode cX8_keep 38 = .ok (.aload_n 0, 1) := by decide +kernel
theorem dX8_keep_39 : decode cX8_keep 39 = .ok (.getfield 10, 3) := by decide +kernel
theorem dX8_keep_42 : decode cX8_keep 42 = .ok (.invokevirtual 131, 3) := by decide +kernel
theorem dX8_keep_45 : decode cX8_keep 45 = .ok (.iconst 1, 1) := by decide +kernel
theorem dX8_keep_46 : decode cX8_keep 46 = .ok (.ireturn, 1) := by decide +kernel
theorem dX8_back_0 : decode cX8_back 0 = .ok (.iload_n 1, 1) := by decide +kernel
theorem dX8_back_1 : decode cX8_back 1 = .ok (.ifCond .lt 8, 3) := by decide +kernel
theorem dX8_back_4 : decode cX8_back 4 = .ok (.iload_n 1, 1) := by decide +kernel
theorem dX8_back_5 : decode cX8_back 5 = .ok (.iconst 2, 1) := by decide +kernel
theorem dX8_back_6 : decode cX8_back 6 = .ok (.if_icmp .lt 5, 3) := by decide +kernel
theorem dX8_back_9 : decode cX8_back 9 = .ok (.iconst 0, 1) := by decide +kernel
theorem dX8_back_10 : decode cX8_back 10 = .ok (.ireturn, 1) := by decide +kernel
theorem dX8_back_11 : decode cX8_back 11 = .ok (.aload_n 0, 1) := by decide +kernel
theorem dX8_back_12 : decode cX8_back 12 = .ok (.getfield 16, 3) := by decide +kernel
theorem dX8_back_15 : decode cX8_back 15 = .ok (.iload_n 1, 1) := by decide +kernel
theorem dX8_back_16 : decode cX8_back 16 = .ok (.aaload, 1) := by decide +kernel
theorem dX8_back_17 : decode cX8_back 17 = .ok (.astore_n 2, 1) := by decide +kernel
theorem dX8_back_18 : decode cX8_back 18 = .ok (.aload_n 2, 1) := by decide +kernel
theorem dX8_back_19 : decode cX8_back 19 = .ok (.ifnonnull 5, 3) := by decide +kernel
theorem dX8_back_22 : decode cX8_back 22 = .ok (.iconst 0, 1) := by decide +kernel
theorem dX8_back_23 : decode cX8_back 23 = .ok (.ireturn, 1) := by decide +kernel
theorem dX8_back_24 : decode cX8_back 24 = .ok (.aload_n 0, 1) := by decide +kernel
theorem dX8_back_25 : decode cX8_back 25 = .ok (.getfield 10, 3) := by decide +kernel
theorem dX8_back_28 : decode cX8_back 28 = .ok (.aload_n 2, 1) := by decide +kernel
theorem dX8_back_29 : decode cX8_back 29 = .ok (.invokevirtual 131, 3) := by decide +kernel
theorem dX8_back_32 : decode cX8_back 32 = .ok (.iconst 1, 1) := by decide +kernel
theorem dX8_back_33 : decode cX8_back 33 = .ok (.ireturn, 1) := by decide +kernel
theorem dX8_solve_0 : decode cX8_solve 0 = .ok (.iload_n 1, 1) := by decide +kernel
theorem dX8_solve_1 : decode cX8_solve 1 = .ok (.iconst 1, 1) := by decide +kernel
theorem dX8_solve_2 : decode cX8_solve 2 = .ok (.if_icmp .lt 10, 3) := by decide +kernel
theorem dX8_solve_5 : decode cX8_solve 5 = .ok (.iload_n 1, 1) := by decide +kernel
theorem dX8_solve_6 : decode cX8_solve 6 = .ok (.sipush 200, 3) := by decide +kernel
theorem dX8_solve_9 : decode cX8_solve 9 = .ok (.if_icmp .le 5, 3) := by decide +kernel
theorem dX8_solve_12 : decode cX8_solve 12 = .ok (.iconst (-1), 1) := by decide +kernel
theorem dX8_solve_13 : decode cX8_solve 13 = .ok (.ireturn, 1) := by decide +kernel
theorem dX8_solve_14 : decode cX8_solve 14 = .ok (.aload_n 0, 1) := by decide +kernel
theorem dX8_solve_15 : decode cX8_solve 15 = .ok (.getfield 25, 3) := by decide +kernel
theorem dX8_solve_18 : decode cX8_solve 18 = .ok (.iload_n 1, 1) := by decide +kernel
theorem dX8_solve_19 : decode cX8_solve 19 = .ok (.invokevirtual 134, 3) := by decide +kernel
theorem dX8_solve_22 : decode cX8_solve 22 = .ok (.ireturn, 1) := by decide +kernel
theorem dX8_count_0 : decode cX8_count 0 = .ok (.iload_n 1, 1) := by decide +kernel
theorem dX8_count_1 : decode cX8_count 1 = .ok (.tableswitch 215 0 14 #[75, 83, 94, 105, 116, 127, 138, 146, 151, 167, 175, 183, 191, 199, 207], 75) := by decide +kernel
theorem dX8_count_76 : decode cX8_count 76 = .ok (.aload_n 0, 1) := by decide +kernel
theorem dX8_count_77 : decode cX8_count 77 = .ok (.getfield 10, 3) := by decide +kernel
theorem dX8_count_80 : decode cX8_count 80 = .ok (.getfield 77, 3) := by decide +kernel
theorem dX8_count_83 : decode cX8_count 83 = .ok (.ireturn, 1) := by decide +kernel
theorem dX8_count_84 : decode cX8_count 84 = .ok (.aload_n 0, 1) := by decide +kernel
theorem dX8_count_85 : decode cX8_count 85 = .ok (.getfield 10, 3) := by decide +kernel
theorem dX8_count_88 : decode cX8_count 88 = .ok (.getfield 91, 3) := by decide +kernel
theorem dX8_count_91 : decode cX8_count 91 = .ok (.getfield 137, 3) := by decide +kernel
theorem dX8_count_94 : decode cX8_count 94 = .ok (.ireturn, 1) := by decide +kernel
theorem dX8_count_95 : decode cX8_count 95 = .ok (.aload_n 0, 1) := by decide +kernel
theorem dX8_count_96 : decode cX8_count 96 = .ok (.getfield 10, 3) := by decide +kernel
theorem dX8_count_99 : decode cX8_count 99 = .ok (.getfield 91, 3) := by decide +kernel
theorem dX8_count_102 : decode cX8_count 102 = .ok (.getfield 140, 3) := by decide +kernel
theorem dX8_count_105 : decode cX8_count 105 = .ok (.ireturn, 1) := by decide +kernel
theorem dX8_count_106 : decode cX8_count 106 = .ok (.aload_n 0, 1) := by decide +kernel
theorem dX8_count_107 : decode cX8_count 107 = .ok (.getfield 10, 3) := by decide +kernel
theorem dX8_count_110 : decode cX8_count 110 = .ok (.getfield 91, 3) := by decide +kernel
theorem dX8_count_113 : decode cX8_count 113 = .ok (.invokevirtual 143, 3) := by decide +kernel
theorem dX8_count_116 : decode cX8_count 116 = .ok (.ireturn, 1) := by decide +kernel
theorem dX8_count_117 : decode cX8_count 117 = .ok (.aload_n 0, 1) := by decide +kernel
theorem dX8_count_118 : decode cX8_count 118 = .ok (.getfield 10, 3) := by decide +kernel
theorem dX8_count_121 : decode cX8_count 121 = .ok (.getfield 108, 3) := by decide +kernel
theorem dX8_count_124 : decode cX8_count 124 = .ok (.getfield 88, 3) := by decide +kernel
theorem dX8_count_127 : decode cX8_count 127 = .ok (.ireturn, 1) := by decide +kernel
theorem dX8_count_128 : decode cX8_count 128 = .ok (.aload_n 0, 1) := by decide +kernel
theorem dX8_count_129 : decode cX8_count 129 = .ok (.getfield 10, 3) := by decide +kernel
theorem dX8_count_132 : decode cX8_count 132 = .ok (.getfield 80, 3) := by decide +kernel
theorem dX8_count_135 : decode cX8_count 135 = .ok (.getfield 88, 3) := by decide +kernel
theorem dX8_count_138 : decode cX8_count 138 = .ok (.ireturn, 1) := by decide +kernel
theorem dX8_count_139 : decode cX8_count 139 = .ok (.aload_n 0, 1) := by decide +kernel
theorem dX8_count_140 : decode cX8_count 140 = .ok (.getfield 10, 3) := by decide +kernel
theorem dX8_count_143 : decode cX8_count 143 = .ok (.getfield 125, 3) := by decide +kernel
theorem dX8_count_146 : decode cX8_count 146 = .ok (.ireturn, 1) := by decide +kernel
theorem dX8_count_147 : decode cX8_count 147 = .ok (.aload_n 0, 1) := by decide +kernel
theorem dX8_count_148 : decode cX8_count 148 = .ok (.invokevirtual 147, 3) := by decide +kernel
theorem dX8_count_151 : decode cX8_count 151 = .ok (.ireturn, 1) := by decide +kernel
theorem dX8_count_152 : decode cX8_count 152 = .ok (.aload_n 0, 1) := by decide +kernel
theorem dX8_count_153 : decode cX8_count 153 = .ok (.getfield 10, 3) := by decide +kernel
theorem dX8_count_156 : decode cX8_count 156 = .ok (.getfield 150, 3) := by decide +kernel
theorem dX8_count_159 : decode cX8_count 159 = .ok (.ifCond .eq 7, 3) := by decide +kernel
theorem dX8_count_162 : decode cX8_count 162 = .ok (.iconst 1, 1) := by decide +kernel
theorem dX8_count_163 : decode cX8_count 163 = .ok (.goto 4, 3) := by decide +kernel
theorem dX8_count_166 : decode cX8_count 166 = .ok (.iconst 0, 1) := by decide +kernel
theorem dX8_count_167 : decode cX8_count 167 = .ok (.ireturn, 1) := by decide +kernel
theorem dX8_count_168 : decode cX8_count 168 = .ok (.aload_n 0, 1) := by decide +kernel
theorem dX8_count_169 : decode cX8_count 169 = .ok (.getfield 39, 3) := by decide +kernel
theorem dX8_count_172 : decode cX8_count 172 = .ok (.getfield 59, 3) := by decide +kernel
theorem dX8_count_175 : decode cX8_count 175 = .ok (.ireturn, 1) := by decide +kernel
theorem dX8_count_176 : decode cX8_count 176 = .ok (.aload_n 0, 1) := by decide +kernel
theorem dX8_count_177 : decode cX8_count 177 = .ok (.getfield 10, 3) := by decide +kernel
theorem dX8_count_180 : decode cX8_count 180 = .ok (.getfield 154, 3) := by decide +kernel
theorem dX8_count_183 : decode cX8_count 183 = .ok (.ireturn, 1) := by decide +kernel
theorem dX8_count_184 : decode cX8_count 184 = .ok (.aload_n 0, 1) := by decide +kernel
theorem dX8_count_185 : decode cX8_count 185 = .ok (.getfield 10, 3) := by decide +kernel
theorem dX8_count_188 : decode cX8_count 188 = .ok (.getfield 157, 3) := by decide +kernel
theorem dX8_count_191 : decode cX8_count 191 = .ok (.ireturn, 1) := by decide +kernel
theorem dX8_count_192 : decode cX8_count 192 = .ok (.aload_n 0, 1) := by decide +kernel
theorem dX8_count_193 : decode cX8_count 193 = .ok (.getfield 10, 3) := by decide +kernel
theorem dX8_count_196 : decode cX8_count 196 = .ok (.getfield 160, 3) := by decide +kernel
theorem dX8_count_199 : decode cX8_count 199 = .ok (.ireturn, 1) := by decide +kernel
theorem dX8_count_200 : decode cX8_count 200 = .ok (.aload_n 0, 1) := by decide +kernel
theorem dX8_count_201 : decode cX8_count 201 = .ok (.getfield 10, 3) := by decide +kernel
theorem dX8_count_204 : decode cX8_count 204 = .ok (.getfield 163, 3) := by decide +kernel
theorem dX8_count_207 : decode cX8_count 207 = .ok (.ireturn, 1) := by decide +kernel
theorem dX8_count_208 : decode cX8_count 208 = .ok (.aload_n 0, 1) := by decide +kernel
theorem dX8_count_209 : decode cX8_count 209 = .ok (.getfield 10, 3) := by decide +kernel
theorem dX8_count_212 : decode cX8_count 212 = .ok (.getfield 166, 3) := by decide +kernel
theorem dX8_count_215 : decode cX8_count 215 = .ok (.ireturn, 1) := by decide +kernel
theorem dX8_count_216 : decode cX8_count 216 = .ok (.iconst (-1), 1) := by decide +kernel
theorem dX8_count_217 : decode cX8_count 217 = .ok (.ireturn, 1) := by decide +kernel
theorem dX8_clause_0 : decode cX8_clause 0 = .ok (.aload_n 0, 1) := by decide +kernel
theorem dX8_clause_1 : decode cX8_clause 1 = .ok (.getfield 10, 3) := by decide +kernel
theorem dX8_clause_4 : decode cX8_clause 4 = .ok (.getfield 91, 3) := by decide +kernel
theorem dX8_clause_7 : decode cX8_clause 7 = .ok (.astore_n 3, 1) := by decide +kernel
theorem dX8_clause_8 : decode cX8_clause 8 = .ok (.iload_n 1, 1) := by decide +kernel
theorem dX8_clause_9 : decode cX8_clause 9 = .ok (.ifCond .lt 26, 3) := by decide +kernel
theorem dX8_clause_12 : decode cX8_clause 12 = .ok (.iload_n 1, 1) := by decide +kernel
theorem dX8_clause_13 : decode cX8_clause 13 = .ok (.aload_n 3, 1) := by decide +kernel
theorem dX8_clause_14 : decode cX8_clause 14 = .ok (.getfield 137, 3) := by decide +kernel
theorem dX8_clause_17 : decode cX8_clause 17 = .ok (.if_icmp .ge 18, 3) := by decide +kernel
theorem dX8_clause_20 : decode cX8_clause 20 = .ok (.iload_n 2, 1) := by decide +kernel
theorem dX8_clause_21 : decode cX8_clause 21 = .ok (.bipush (-3), 2) := by decide +kernel
theorem dX8_clause_23 : decode cX8_clause 23 = .ok (.if_icmp .lt 12, 3) := by decide +kernel
theorem dX8_clause_26 : decode cX8_clause 26 = .ok (.iload_n 2, 1) := by decide +kernel
theorem dX8_clause_27 : decode cX8_clause 27 = .ok (.aload_n 3, 1) := by decide +kernel
theorem dX8_clause_28 : decode cX8_clause 28 = .ok (.iload_n 1, 1) := by decide +kernel
theorem dX8_clause_29 : decode cX8_clause 29 = .ok (.invokevirtual 169, 3) := by decide +kernel
theorem dX8_clause_32 : decode cX8_clause 32 = .ok (.if_icmp .lt 11, 3) := by decide +kernel
theorem dX8_clause_35 : decode cX8_clause 35 = .ok (.new 172, 3) := by decide +kernel
theorem dX8_clause_38 : decode cX8_clause 38 = .ok (.dup, 1) := by decide +kernel
theorem dX8_clause_39 : decode cX8_clause 39 = .ok (.invokespecial 174, 3) := by decide +kernel
theorem dX8_clause_42 : decode cX8_clause 42 = .ok (.athrow, 1) := by decide +kernel
theorem dX8_clause_43 : decode cX8_clause 43 = .ok (.iload_n 2, 1) := by decide +kernel
theorem dX8_clause_44 : decode cX8_clause 44 = .ok (.tableswitch 62 (-3) (-1) #[48, 34, 28], 28) := by decide +kernel
theorem dX8_clause_72 : decode cX8_clause 72 = .ok (.aload_n 3, 1) := by decide +kernel
theorem dX8_clause_73 : decode cX8_clause 73 = .ok (.iload_n 1, 1) := by decide +kernel
theorem dX8_clause_74 : decode cX8_clause 74 = .ok (.invokevirtual 169, 3) := by decide +kernel
theorem dX8_clause_77 : decode cX8_clause 77 = .ok (.ireturn, 1) := by decide +kernel
theorem dX8_clause_78 : decode cX8_clause 78 = .ok (.aload_n 3, 1) := by decide +kernel
theorem dX8_clause_79 : decode cX8_clause 79 = .ok (.iload_n 1, 1) := by decide +kernel
theorem dX8_clause_80 : decode cX8_clause 80 = .ok (.invokevirtual 175, 3) := by decide +kernel
theorem dX8_clause_83 : decode cX8_clause 83 = .ok (.ifCond .eq 7, 3) := by decide +kernel
theorem dX8_clause_86 : decode cX8_clause 86 = .ok (.iconst 1, 1) := by decide +kernel
theorem dX8_clause_87 : decode cX8_clause 87 = .ok (.goto 4, 3) := by decide +kernel
theorem dX8_clause_90 : decode cX8_clause 90 = .ok (.iconst 0, 1) := by decide +kernel
theorem dX8_clause_91 : decode cX8_clause 91 = .ok (.ireturn, 1) := by decide +kernel
theorem dX8_clause_92 : decode cX8_clause 92 = .ok (.aload_n 3, 1) := by decide +kernel
theorem dX8_clause_93 : decode cX8_clause 93 = .ok (.iload_n 1, 1) := by decide +kernel
theorem dX8_clause_94 : decode cX8_clause 94 = .ok (.invokevirtual 178, 3) := by decide +kernel
theorem dX8_clause_97 : decode cX8_clause 97 = .ok (.ifCond .eq 7, 3) := by decide +kernel
theorem dX8_clause_100 : decode cX8_clause 100 = .ok (.iconst 1, 1) := by decide +kernel
theorem dX8_clause_101 : decode cX8_clause 101 = .ok (.goto 4, 3) := by decide +kernel
theorem dX8_clause_104 : decode cX8_clause 104 = .ok (.iconst 0, 1) := by decide +kernel
theorem dX8_clause_105 : decode cX8_clause 105 = .ok (.ireturn, 1) := by decide +kernel
theorem dX8_clause_106 : decode cX8_clause 106 = .ok (.aload_n 3, 1) := by decide +kernel
theorem dX8_clause_107 : decode cX8_clause 107 = .ok (.iload_n 1, 1) := by decide +kernel
theorem dX8_clause_108 : decode cX8_clause 108 = .ok (.iload_n 2, 1) := by decide +kernel
theorem dX8_clause_109 : decode cX8_clause 109 = .ok (.invokevirtual 181, 3) := by decide +kernel
theorem dX8_clause_112 : decode cX8_clause 112 = .ok (.ireturn, 1) := by decide +kernel
theorem dX8_assumption_0 : decode cX8_assumption 0 = .ok (.iload_n 1, 1) := by decide +kernel
theorem dX8_assumption_1 : decode cX8_assumption 1 = .ok (.ifCond .lt 17, 3) := by decide +kernel
theorem dX8_assumption_4 : decode cX8_assumption 4 = .ok (.iload_n 1, 1) := by decide +kernel
theorem dX8_assumption_5 : decode cX8_assumption 5 = .ok (.aload_n 0, 1) := by decide +kernel
theorem dX8_assumption_6 : decode cX8_assumption 6 = .ok (.getfield 10, 3) := by decide +kernel
theorem dX8_assumption_9 : decode cX8_assumption 9 = .ok (.getfield 108, 3) := by decide +kernel
theorem dX8_assumption_12 : decode cX8_assumption 12 = .ok (.getfield 88, 3) := by decide +kernel
theorem dX8_assumption_15 : decode cX8_assumption 15 = .ok (.if_icmp .lt 7, 3) := by decide +kernel
theorem dX8_assumption_18 : decode cX8_assumption 18 = .ok (.iconst 0, 1) := by decide +kernel
theorem dX8_assumption_19 : decode cX8_assumption 19 = .ok (.goto 15, 3) := by decide +kernel
theorem dX8_assumption_22 : decode cX8_assumption 22 = .ok (.aload_n 0, 1) := by decide +kernel
theorem dX8_assumption_23 : decode cX8_assumption 23 = .ok (.getfield 10, 3) := by decide +kernel
theorem dX8_assumption_26 : decode cX8_assumption 26 = .ok (.getfield 108, 3) := by decide +kernel
theorem dX8_assumption_29 : decode cX8_assumption 29 = .ok (.getfield 185, 3) := by decide +kernel
theorem dX8_assumption_32 : decode cX8_assumption 32 = .ok (.iload_n 1, 1) := by decide +kernel
theorem dX8_assumption_33 : decode cX8_assumption 33 = .ok (.iaload, 1) := by decide +kernel
theorem dX8_assumption_34 : decode cX8_assumption 34 = .ok (.ireturn, 1) := by decide +kernel
theorem dX8_model_0 : decode cX8_model 0 = .ok (.iload_n 1, 1) := by decide +kernel
theorem dX8_model_1 : decode cX8_model 1 = .ok (.iconst 1, 1) := by decide +kernel
theorem dX8_model_2 : decode cX8_model 2 = .ok (.if_icmp .lt 14, 3) := by decide +kernel
theorem dX8_model_5 : decode cX8_model 5 = .ok (.iload_n 1, 1) := by decide +kernel
theorem dX8_model_6 : decode cX8_model 6 = .ok (.aload_n 0, 1) := by decide +kernel
theorem dX8_model_7 : decode cX8_model 7 = .ok (.getfield 10, 3) := by decide +kernel
theorem dX8_model_10 : decode cX8_model 10 = .ok (.getfield 189, 3) := by decide +kernel
theorem dX8_model_13 : decode cX8_model 13 = .ok (.if_icmp .le 5, 3) := by decide +kernel
theorem dX8_model_16 : decode cX8_model 16 = .ok (.iconst (-1), 1) := by decide +kernel
theorem dX8_model_17 : decode cX8_model 17 = .ok (.ireturn, 1) := by decide +kernel
theorem dX8_model_18 : decode cX8_model 18 = .ok (.aload_n 0, 1) := by decide +kernel
theorem dX8_model_19 : decode cX8_model 19 = .ok (.getfield 10, 3) := by decide +kernel
theorem dX8_model_22 : decode cX8_model 22 = .ok (.getfield 192, 3) := by decide +kernel
theorem dX8_model_25 : decode cX8_model 25 = .ok (.iload_n 1, 1) := by decide +kernel
theorem dX8_model_26 : decode cX8_model 26 = .ok (.invokestatic 195, 3) := by decide +kernel
theorem dX8_model_29 : decode cX8_model 29 = .ok (.iand, 1) := by decide +kernel
theorem dX8_model_30 : decode cX8_model 30 = .ok (.ifCond .eq 7, 3) := by decide +kernel
theorem dX8_model_33 : decode cX8_model 33 = .ok (.iconst 1, 1) := by decide +kernel
theorem dX8_model_34 : decode cX8_model 34 = .ok (.goto 4, 3) := by decide +kernel
theorem dX8_model_37 : decode cX8_model 37 = .ok (.iconst 0, 1) := by decide +kernel
theorem dX8_model_38 : decode cX8_model 38 = .ok (.ireturn, 1) := by decide +kernel
theorem dX8_core_0 : decode cX8_core 0 = .ok (.aload_n 0, 1) := by decide +kernel
theorem dX8_core_1 : decode cX8_core 1 = .ok (.getfield 10, 3) := by decide +kernel
theorem dX8_core_4 : decode cX8_core 4 = .ok (.getfield 166, 3) := by decide +kernel
theorem dX8_core_7 : decode cX8_core 7 = .ok (.ifCond .ne 13, 3) := by decide +kernel
theorem dX8_core_10 : decode cX8_core 10 = .ok (.aload_n 0, 1) := by decide +kernel
theorem dX8_core_11 : decode cX8_core 11 = .ok (.getfield 10, 3) := by decide +kernel
theorem dX8_core_14 : decode cX8_core 14 = .ok (.getfield 198, 3) := by decide +kernel
theorem dX8_core_17 : decode cX8_core 17 = .ok (.goto 4, 3) := by decide +kernel
theorem dX8_core_20 : decode cX8_core 20 = .ok (.iconst (-1), 1) := by decide +kernel
theorem dX8_core_21 : decode cX8_core 21 = .ok (.ireturn, 1) := by decide +kernel
theorem dX8_variable_0 : decode cX8_variable 0 = .ok (.iload_n 1, 1) := by decide +kernel
theorem dX8_variable_1 : decode cX8_variable 1 = .ok (.iconst 1, 1) := by decide +kernel
theorem dX8_variable_2 : decode cX8_variable 2 = .ok (.if_icmp .lt 14, 3) := by decide +kernel
theorem dX8_variable_5 : decode cX8_variable 5 = .ok (.iload_n 1, 1) := by decide +kernel
theorem dX8_variable_6 : decode cX8_variable 6 = .ok (.aload_n 0, 1) := by decide +kernel
theorem dX8_variable_7 : decode cX8_variable 7 = .ok (.getfield 10, 3) := by decide +kernel
theorem dX8_variable_10 : decode cX8_variable 10 = .ok (.getfield 77, 3) := by decide +kernel
theorem dX8_variable_13 : decode cX8_variable 13 = .ok (.if_icmp .le 5, 3) := by decide +kernel
theorem dX8_variable_16 : decode cX8_variable 16 = .ok (.iconst (-1), 1) := by decide +kernel
theorem dX8_variable_17 : decode cX8_variable 17 = .ok (.ireturn, 1) := by decide +kernel
theorem dX8_variable_18 : decode cX8_variable 18 = .ok (.iload_n 2, 1) := by decide +kernel
theorem dX8_variable_19 : decode cX8_variable 19 = .ok (.tableswitch 64 0 2 #[25, 42, 52], 25) := by decide +kernel
theorem dX8_variable_44 : decode cX8_variable 44 = .ok (.aload_n 0, 1) := by decide +kernel
theorem dX8_variable_45 : decode cX8_variable 45 = .ok (.getfield 10, 3) := by decide +kernel
theorem dX8_variable_48 : decode cX8_variable 48 = .ok (.iload_n 1, 1) := by decide +kernel
theorem dX8_variable_49 : decode cX8_variable 49 = .ok (.invokevirtual 119, 3) := by decide +kernel
theorem dX8_variable_52 : decode cX8_variable 52 = .ok (.ifCond .eq 7, 3) := by decide +kernel
theorem dX8_variable_55 : decode cX8_variable 55 = .ok (.iconst 1, 1) := by decide +kernel
theorem dX8_variable_56 : decode cX8_variable 56 = .ok (.goto 4, 3) := by decide +kernel
theorem dX8_variable_59 : decode cX8_variable 59 = .ok (.iconst 0, 1) := by decide +kernel
theorem dX8_variable_60 : decode cX8_variable 60 = .ok (.ireturn, 1) := by decide +kernel
theorem dX8_variable_61 : decode cX8_variable 61 = .ok (.aload_n 0, 1) := by decide +kernel
theorem dX8_variable_62 : decode cX8_variable 62 = .ok (.getfield 10, 3) := by decide +kernel
theorem dX8_variable_65 : decode cX8_variable 65 = .ok (.getfield 201, 3) := by decide +kernel
theorem dX8_variable_68 : decode cX8_variable 68 = .ok (.iload_n 1, 1) := by decide +kernel
theorem dX8_variable_69 : decode cX8_variable 69 = .ok (.iaload, 1) := by decide +kernel
theorem dX8_variable_70 : decode cX8_variable 70 = .ok (.ireturn, 1) := by decide +kernel
theorem dX8_variable_71 : decode cX8_variable 71 = .ok (.aload_n 0, 1) := by decide +kernel
theorem dX8_variable_72 : decode cX8_variable 72 = .ok (.getfield 10, 3) := by decide +kernel
theorem dX8_variable_75 : decode cX8_variable 75 = .ok (.getfield 91, 3) := by decide +kernel
theorem dX8_variable_78 : decode cX8_variable 78 = .ok (.iload_n 1, 1) := by decide +kernel
theorem dX8_variable_79 : decode cX8_variable 79 = .ok (.invokevirtual 204, 3) := by decide +kernel
theorem dX8_variable_82 : decode cX8_variable 82 = .ok (.ireturn, 1) := by decide +kernel
theorem dX8_variable_83 : decode cX8_variable 83 = .ok (.iconst (-1), 1) := by decide +kernel
theorem dX8_variable_84 : decode cX8_variable 84 = .ok (.ireturn, 1) := by decide +kernel
theorem dX8_follows_0 : decode cX8_follows 0 = .ok (.iload_n 1, 1) := by decide +kernel
theorem dX8_follows_1 : decode cX8_follows 1 = .ok (.iconst (-1), 1) := by decide +kernel
theorem dX8_follows_2 : decode cX8_follows 2 = .ok (.if_icmp .lt 9, 3) := by decide +kernel
theorem dX8_follows_5 : decode cX8_follows 5 = .ok (.iload_n 1, 1) := by decide +kernel
theorem dX8_follows_6 : decode cX8_follows 6 = .ok (.bipush 30, 2) := by decide +kernel
theorem dX8_follows_8 : decode cX8_follows 8 = .ok (.if_icmp .lt 5, 3) := by decide +kernel
theorem dX8_follows_11 : decode cX8_follows 11 = .ok (.iconst 0, 1) := by decide +kernel
theorem dX8_follows_12 : decode cX8_follows 12 = .ok (.ireturn, 1) := by decide +kernel
theorem dX8_follows_13 : decode cX8_follows 13 = .ok (.aload_n 0, 1) := by decide +kernel
theorem dX8_follows_14 : decode cX8_follows 14 = .ok (.getfield 25, 3) := by decide +kernel
theorem dX8_follows_17 : decode cX8_follows 17 = .ok (.invokevirtual 207, 3) := by decide +kernel
theorem dX8_follows_20 : decode cX8_follows 20 = .ok (.istore_n 2, 1) := by decide +kernel
theorem dX8_follows_21 : decode cX8_follows 21 = .ok (.iload_n 1, 1) := by decide +kernel
theorem dX8_follows_22 : decode cX8_follows 22 = .ok (.iconst (-1), 1) := by decide +kernel
theorem dX8_follows_23 : decode cX8_follows 23 = .ok (.if_icmp .ne 20, 3) := by decide +kernel
theorem dX8_follows_26 : decode cX8_follows 26 = .ok (.iload_n 2, 1) := by decide +kernel
theorem dX8_follows_27 : decode cX8_follows 27 = .ok (.ifCond .eq 8, 3) := by decide +kernel
theorem dX8_follows_30 : decode cX8_follows 30 = .ok (.bipush 100, 2) := by decide +kernel
theorem dX8_follows_32 : decode cX8_follows 32 = .ok (.goto 10, 3) := by decide +kernel
theorem dX8_follows_35 : decode cX8_follows 35 = .ok (.aload_n 0, 1) := by decide +kernel
theorem dX8_follows_36 : decode cX8_follows 36 = .ok (.getfield 25, 3) := by decide +kernel
theorem dX8_follows_39 : decode cX8_follows 39 = .ok (.getfield 210, 3) := by decide +kernel
theorem dX8_follows_42 : decode cX8_follows 42 = .ok (.ireturn, 1) := by decide +kernel
theorem dX8_follows_43 : decode cX8_follows 43 = .ok (.iload_n 1, 1) := by decide +kernel
theorem dX8_follows_44 : decode cX8_follows 44 = .ok (.aload_n 0, 1) := by decide +kernel
theorem dX8_follows_45 : decode cX8_follows 45 = .ok (.getfield 25, 3) := by decide +kernel
theorem dX8_follows_48 : decode cX8_follows 48 = .ok (.getfield 210, 3) := by decide +kernel
theorem dX8_follows_51 : decode cX8_follows 51 = .ok (.if_icmp .ge 15, 3) := by decide +kernel
theorem dX8_follows_54 : decode cX8_follows 54 = .ok (.aload_n 0, 1) := by decide +kernel
theorem dX8_follows_55 : decode cX8_follows 55 = .ok (.getfield 25, 3) := by decide +kernel
theorem dX8_follows_58 : decode cX8_follows 58 = .ok (.getfield 213, 3) := by decide +kernel
theorem dX8_follows_61 : decode cX8_follows 61 = .ok (.iload_n 1, 1) := by decide +kernel
theorem dX8_follows_62 : decode cX8_follows 62 = .ok (.iaload, 1) := by decide +kernel
theorem dX8_follows_63 : decode cX8_follows 63 = .ok (.goto 4, 3) := by decide +kernel
theorem dX8_follows_66 : decode cX8_follows 66 = .ok (.iconst 0, 1) := by decide +kernel
theorem dX8_follows_67 : decode cX8_follows 67 = .ok (.ireturn, 1) := by decide +kernel
theorem dX8_line_0 : decode cX8_line 0 = .ok (.iload_n 1, 1) := by decide +kernel
theorem dX8_line_1 : decode cX8_line 1 = .ok (.ifCond .lt 16, 3) := by decide +kernel
theorem dX8_line_4 : decode cX8_line 4 = .ok (.iload_n 1, 1) := by decide +kernel
theorem dX8_line_5 : decode cX8_line 5 = .ok (.aload_n 0, 1) := by decide +kernel
theorem dX8_line_6 : decode cX8_line 6 = .ok (.invokevirtual 147, 3) := by decide +kernel
theorem dX8_line_9 : decode cX8_line 9 = .ok (.if_icmp .ge 8, 3) := by decide +kernel
theorem dX8_line_12 : decode cX8_line 12 = .ok (.iload_n 2, 1) := by decide +kernel
theorem dX8_line_13 : decode cX8_line 13 = .ok (.iconst (-1), 1) := by decide +kernel
theorem dX8_line_14 : decode cX8_line 14 = .ok (.if_icmp .ge 6, 3) := by decide +kernel
theorem dX8_line_17 : decode cX8_line 17 = .ok (.bipush (-100), 2) := by decide +kernel
theorem dX8_line_19 : decode cX8_line 19 = .ok (.ireturn, 1) := by decide +kernel
theorem dX8_line_20 : decode cX8_line 20 = .ok (.aload_n 0, 1) := by decide +kernel
theorem dX8_line_21 : decode cX8_line 21 = .ok (.getfield 10, 3) := by decide +kernel
theorem dX8_line_24 : decode cX8_line 24 = .ok (.getfield 91, 3) := by decide +kernel
theorem dX8_line_27 : decode cX8_line 27 = .ok (.iload_n 1, 1) := by decide +kernel
theorem dX8_line_28 : decode cX8_line 28 = .ok (.invokevirtual 216, 3) := by decide +kernel
theorem dX8_line_31 : decode cX8_line 31 = .ok (.istore_n 3, 1) := by decide +kernel
theorem dX8_line_32 : decode cX8_line 32 = .ok (.iload_n 3, 1) := by decide +kernel
theorem dX8_line_33 : decode cX8_line 33 = .ok (.iconst (-1), 1) := by decide +kernel
theorem dX8_line_34 : decode cX8_line 34 = .ok (.if_icmp .ne 7, 3) := by decide +kernel
theorem dX8_line_37 : decode cX8_line 37 = .ok (.iconst 0, 1) := by decide +kernel
theorem dX8_line_38 : decode cX8_line 38 = .ok (.goto 14, 3) := by decide +kernel
theorem dX8_line_41 : decode cX8_line 41 = .ok (.aload_n 0, 1) := by decide +kernel
theorem dX8_line_42 : decode cX8_line 42 = .ok (.getfield 10, 3) := by decide +kernel
theorem dX8_line_45 : decode cX8_line 45 = .ok (.getfield 91, 3) := by decide +kernel
theorem dX8_line_48 : decode cX8_line 48 = .ok (.iload_n 3, 1) := by decide +kernel
theorem dX8_line_49 : decode cX8_line 49 = .ok (.invokevirtual 169, 3) := by decide +kernel
theorem dX8_line_52 : decode cX8_line 52 = .ok (.istore 4, 2) := by decide +kernel
theorem dX8_line_54 : decode cX8_line 54 = .ok (.iload_n 2, 1) := by decide +kernel
theorem dX8_line_55 : decode cX8_line 55 = .ok (.iconst (-1), 1) := by decide +kernel
theorem dX8_line_56 : decode cX8_line 56 = .ok (.if_icmp .ne 6, 3) := by decide +kernel
theorem dX8_line_59 : decode cX8_line 59 = .ok (.iload 4, 2) := by decide +kernel
theorem dX8_line_61 : decode cX8_line 61 = .ok (.ireturn, 1) := by decide +kernel
theorem dX8_line_62 : decode cX8_line 62 = .ok (.iload_n 2, 1) := by decide +kernel
theorem dX8_line_63 : decode cX8_line 63 = .ok (.iload 4, 2) := by decide +kernel
theorem dX8_line_65 : decode cX8_line 65 = .ok (.if_icmp .ge 18, 3) := by decide +kernel
theorem dX8_line_68 : decode cX8_line 68 = .ok (.aload_n 0, 1) := by decide +kernel
theorem dX8_line_69 : decode cX8_line 69 = .ok (.getfield 10, 3) := by decide +kernel
theorem dX8_line_72 : decode cX8_line 72 = .ok (.getfield 91, 3) := by decide +kernel
theorem dX8_line_75 : decode cX8_line 75 = .ok (.iload_n 3, 1) := by decide +kernel
theorem dX8_line_76 : decode cX8_line 76 = .ok (.iload_n 2, 1) := by decide +kernel
theorem dX8_line_77 : decode cX8_line 77 = .ok (.invokevirtual 181, 3) := by decide +kernel
theorem dX8_line_80 : decode cX8_line 80 = .ok (.goto 5, 3) := by decide +kernel
theorem dX8_line_83 : decode cX8_line 83 = .ok (.bipush (-100), 2) := by decide +kernel
theorem dX8_line_85 : decode cX8_line 85 = .ok (.ireturn, 1) := by decide +kernel
theorem dX8_proof_0 : decode cX8_proof 0 = .ok (.aload_n 0, 1) := by decide +kernel
theorem dX8_proof_1 : decode cX8_proof 1 = .ok (.getfield 32, 3) := by decide +kernel
theorem dX8_proof_4 : decode cX8_proof 4 = .ok (.aload_n 0, 1) := by decide +kernel
theorem dX8_proof_5 : decode cX8_proof 5 = .ok (.getfield 10, 3) := by decide +kernel
theorem dX8_proof_8 : decode cX8_proof 8 = .ok (.invokevirtual 219, 3) := by decide +kernel
theorem dX8_proof_11 : decode cX8_proof 11 = .ok (.ireturn, 1) := by decide +kernel
theorem dX8_refute_0 : decode cX8_refute 0 = .ok (.aload_n 0, 1) := by decide +kernel
theorem dX8_refute_1 : decode cX8_refute 1 = .ok (.getfield 32, 3) := by decide +kernel
theorem dX8_refute_4 : decode cX8_refute 4 = .ok (.aload_n 0, 1) := by decide +kernel
theorem dX8_refute_5 : decode cX8_refute 5 = .ok (.getfield 39, 3) := by decide +kernel
theorem dX8_refute_8 : decode cX8_refute 8 = .ok (.aload_n 0, 1) := by decide +kernel
theorem dX8_refute_9 : decode cX8_refute 9 = .ok (.getfield 10, 3) := by decide +kernel
theorem dX8_refute_12 : decode cX8_refute 12 = .ok (.invokevirtual 223, 3) := by decide +kernel
theorem dX8_refute_15 : decode cX8_refute 15 = .ok (.istore_n 1, 1) := by decide +kernel
theorem dX8_refute_16 : decode cX8_refute 16 = .ok (.aload_n 0, 1) := by decide +kernel
theorem dX8_refute_17 : decode cX8_refute 17 = .ok (.getfield 39, 3) := by decide +kernel
theorem dX8_refute_20 : decode cX8_refute 20 = .ok (.iconst 0, 1) := by decide +kernel
theorem dX8_refute_21 : decode cX8_refute 21 = .ok (.putfield 59, 3) := by decide +kernel
theorem dX8_refute_24 : decode cX8_refute 24 = .ok (.iload_n 1, 1) := by decide +kernel
theorem dX8_refute_25 : decode cX8_refute 25 = .ok (.iconst (-1), 1) := by decide +kernel
theorem dX8_refute_26 : decode cX8_refute 26 = .ok (.if_icmp .eq 25, 3) := by decide +kernel
theorem dX8_refute_29 : decode cX8_refute 29 = .ok (.aload_n 0, 1) := by decide +kernel
theorem dX8_refute_30 : decode cX8_refute 30 = .ok (.getfield 10, 3) := by decide +kernel
theorem dX8_refute_33 : decode cX8_refute 33 = .ok (.aload_n 0, 1) := by decide +kernel
theorem dX8_refute_34 : decode cX8_refute 34 = .ok (.getfield 32, 3) := by decide +kernel
theorem dX8_refute_37 : decode cX8_refute 37 = .ok (.getfield 227, 3) := by decide +kernel
theorem dX8_refute_40 : decode cX8_refute 40 = .ok (.ifCond .eq 7, 3) := by decide +kernel
theorem dX8_refute_43 : decode cX8_refute 43 = .ok (.iconst 1, 1) := by decide +kernel
theorem dX8_refute_44 : decode cX8_refute 44 = .ok (.goto 4, 3) := by decide +kernel
theorem dX8_refute_47 : decode cX8_refute 47 = .ok (.iconst 0, 1) := by decide +kernel
theorem dX8_refute_48 : decode cX8_refute 48 = .ok (.putfield 230, 3) := by decide +kernel
theorem dX8_refute_51 : decode cX8_refute 51 = .ok (.iload_n 1, 1) := by decide +kernel
theorem dX8_refute_52 : decode cX8_refute 52 = .ok (.ireturn, 1) := by decide +kernel
theorem dX8_closed_0 : decode cX8_closed 0 = .ok (.aload_n 0, 1) := by decide +kernel
theorem dX8_closed_1 : decode cX8_closed 1 = .ok (.getfield 10, 3) := by decide +kernel
theorem dX8_closed_4 : decode cX8_closed 4 = .ok (.getfield 230, 3) := by decide +kernel
theorem dX8_closed_7 : decode cX8_closed 7 = .ok (.ireturn, 1) := by decide +kernel
theorem dX8_models_0 : decode cX8_models 0 = .ok (.aload_n 0, 1) := by decide +kernel
theorem dX8_models_1 : decode cX8_models 1 = .ok (.getfield 10, 3) := by decide +kernel
theorem dX8_models_4 : decode cX8_models 4 = .ok (.getfield 77, 3) := by decide +kernel
theorem dX8_models_7 : decode cX8_models 7 = .ok (.bipush 12, 2) := by decide +kernel
theorem dX8_models_9 : decode cX8_models 9 = .ok (.if_icmp .le 5, 3) := by decide +kernel
theorem dX8_models_12 : decode cX8_models 12 = .ok (.iconst (-1), 1) := by decide +kernel
theorem dX8_models_13 : decode cX8_models 13 = .ok (.ireturn, 1) := by decide +kernel
theorem dX8_models_14 : decode cX8_models 14 = .ok (.aload_n 0, 1) := by decide +kernel
theorem dX8_models_15 : decode cX8_models 15 = .ok (.getfield 55, 3) := by decide +kernel
theorem dX8_models_18 : decode cX8_models 18 = .ok (.aload_n 0, 1) := by decide +kernel
theorem dX8_models_19 : decode cX8_models 19 = .ok (.getfield 10, 3) := by decide +kernel
theorem dX8_models_22 : decode cX8_models 22 = .ok (.invokevirtual 233, 3) := by decide +kernel
theorem dX8_models_25 : decode cX8_models 25 = .ok (.aload_n 0, 1) := by decide +kernel
theorem dX8_models_26 : decode cX8_models 26 = .ok (.getfield 55, 3) := by decide +kernel
theorem dX8_models_29 : decode cX8_models 29 = .ok (.invokevirtual 236, 3) := by decide +kernel
theorem dX8_models_32 : decode cX8_models 32 = .ok (.ireturn, 1) := by decide +kernel
theorem dX8_fixed_0 : decode cX8_fixed 0 = .ok (.aload_n 0, 1) := by decide +kernel
theorem dX8_fixed_1 : decode cX8_fixed 1 = .ok (.getfield 10, 3) := by decide +kernel
theorem dX8_fixed_4 : decode cX8_fixed 4 = .ok (.getfield 77, 3) := by decide +kernel
theorem dX8_fixed_7 : decode cX8_fixed 7 = .ok (.bipush 12, 2) := by decide +kernel
theorem dX8_fixed_9 : decode cX8_fixed 9 = .ok (.if_icmp .le 5, 3) := by decide +kernel
theorem dX8_fixed_12 : decode cX8_fixed 12 = .ok (.iconst (-1), 1) := by decide +kernel
theorem dX8_fixed_13 : decode cX8_fixed 13 = .ok (.ireturn, 1) := by decide +kernel
theorem dX8_fixed_14 : decode cX8_fixed 14 = .ok (.aload_n 0, 1) := by decide +kernel
theorem dX8_fixed_15 : decode cX8_fixed 15 = .ok (.getfield 55, 3) := by decide +kernel
theorem dX8_fixed_18 : decode cX8_fixed 18 = .ok (.aload_n 0, 1) := by decide +kernel
theorem dX8_fixed_19 : decode cX8_fixed 19 = .ok (.getfield 10, 3) := by decide +kernel
theorem dX8_fixed_22 : decode cX8_fixed 22 = .ok (.invokevirtual 233, 3) := by decide +kernel
theorem dX8_fixed_25 : decode cX8_fixed 25 = .ok (.aload_n 0, 1) := by decide +kernel
theorem dX8_fixed_26 : decode cX8_fixed 26 = .ok (.getfield 55, 3) := by decide +kernel
theorem dX8_fixed_29 : decode cX8_fixed 29 = .ok (.invokevirtual 236, 3) := by decide +kernel
theorem dX8_fixed_32 : decode cX8_fixed 32 = .ok (.ifCond .ne 7, 3) := by decide +kernel
theorem dX8_fixed_35 : decode cX8_fixed 35 = .ok (.iconst (-1), 1) := by decide +kernel
theorem dX8_fixed_36 : decode cX8_fixed 36 = .ok (.goto 18, 3) := by decide +kernel
theorem dX8_fixed_39 : decode cX8_fixed 39 = .ok (.aload_n 0, 1) := by decide +kernel
theorem dX8_fixed_40 : decode cX8_fixed 40 = .ok (.getfield 55, 3) := by decide +kernel
theorem dX8_fixed_43 : decode cX8_fixed 43 = .ok (.aload_n 0, 1) := by decide +kernel
theorem dX8_fixed_44 : decode cX8_fixed 44 = .ok (.getfield 10, 3) := by decide +kernel
theorem dX8_fixed_47 : decode cX8_fixed 47 = .ok (.getfield 77, 3) := by decide +kernel
theorem dX8_fixed_50 : decode cX8_fixed 50 = .ok (.iload_n 1, 1) := by decide +kernel
theorem dX8_fixed_51 : decode cX8_fixed 51 = .ok (.invokevirtual 239, 3) := by decide +kernel
theorem dX8_fixed_54 : decode cX8_fixed 54 = .ok (.ireturn, 1) := by decide +kernel
theorem dX8_takeMore_0 : decode cX8_takeMore 0 = .ok (.aload_n 0, 1) := by decide +kernel
theorem dX8_takeMore_1 : decode cX8_takeMore 1 = .ok (.getfield 10, 3) := by decide +kernel
theorem dX8_takeMore_4 : decode cX8_takeMore 4 = .ok (.iload_n 2, 1) := by decide +kernel
theorem dX8_takeMore_5 : decode cX8_takeMore 5 = .ok (.invokevirtual 111, 3) := by decide +kernel
theorem dX8_takeMore_8 : decode cX8_takeMore 8 = .ok (.ifCond .eq 11, 3) := by decide +kernel
theorem dX8_takeMore_11 : decode cX8_takeMore 11 = .ok (.aload_n 1, 1) := by decide +kernel
theorem dX8_takeMore_12 : decode cX8_takeMore 12 = .ok (.iload_n 2, 1) := by decide +kernel
theorem dX8_takeMore_13 : decode cX8_takeMore 13 = .ok (.invokevirtual 243, 3) := by decide +kernel
theorem dX8_takeMore_16 : decode cX8_takeMore 16 = .ok (.ifCond .ne 5, 3) := by decide +kernel
theorem dX8_takeMore_19 : decode cX8_takeMore 19 = .ok (.iconst (-1), 1) := by decide +kernel
theorem dX8_takeMore_20 : decode cX8_takeMore 20 = .ok (.ireturn, 1) := by decide +kernel
theorem dX8_takeMore_21 : decode cX8_takeMore 21 = .ok (.aload_n 1, 1) := by decide +kernel
theorem dX8_takeMore_22 : decode cX8_takeMore 22 = .ok (.iload_n 2, 1) := by decide +kernel
theorem dX8_takeMore_23 : decode cX8_takeMore 23 = .ok (.invokevirtual 246, 3) := by decide +kernel
theorem dX8_takeMore_26 : decode cX8_takeMore 26 = .ok (.aload_n 1, 1) := by decide +kernel
theorem dX8_takeMore_27 : decode cX8_takeMore 27 = .ok (.getfield 88, 3) := by decide +kernel
theorem dX8_takeMore_30 : decode cX8_takeMore 30 = .ok (.ireturn, 1) := by decide +kernel
theorem dX8_logLength_0 : decode cX8_logLength 0 = .ok (.aload_n 0, 1) := by decide +kernel
theorem dX8_logLength_1 : decode cX8_logLength 1 = .ok (.getfield 10, 3) := by decide +kernel
theorem dX8_logLength_4 : decode cX8_logLength 4 = .ok (.getfield 91, 3) := by decide +kernel
theorem dX8_logLength_7 : decode cX8_logLength 7 = .ok (.invokevirtual 249, 3) := by decide +kernel
theorem dX8_logLength_10 : decode cX8_logLength 10 = .ok (.aload_n 0, 1) := by decide +kernel
theorem dX8_logLength_11 : decode cX8_logLength 11 = .ok (.getfield 10, 3) := by decide +kernel
theorem dX8_logLength_14 : decode cX8_logLength 14 = .ok (.getfield 150, 3) := by decide +kernel
theorem dX8_logLength_17 : decode cX8_logLength 17 = .ok (.ifCond .eq 7, 3) := by decide +kernel
theorem dX8_logLength_20 : decode cX8_logLength 20 = .ok (.iconst 1, 1) := by decide +kernel
theorem dX8_logLength_21 : decode cX8_logLength 21 = .ok (.goto 4, 3) := by decide +kernel
theorem dX8_logLength_24 : decode cX8_logLength 24 = .ok (.iconst 0, 1) := by decide +kernel
theorem dX8_logLength_25 : decode cX8_logLength 25 = .ok (.iadd, 1) := by decide +kernel
theorem dX8_logLength_26 : decode cX8_logLength 26 = .ok (.ireturn, 1) := by decide +kernel
theorem dX8_variableOf_0 : decode cX8_variableOf 0 = .ok (.iload_n 0, 1) := by decide +kernel
theorem dX8_variableOf_1 : decode cX8_variableOf 1 = .ok (.ifCond .ge 8, 3) := by decide +kernel
theorem dX8_variableOf_4 : decode cX8_variableOf 4 = .ok (.iload_n 0, 1) := by decide +kernel
theorem dX8_variableOf_5 : decode cX8_variableOf 5 = .ok (.ineg, 1) := by decide +kernel
theorem dX8_variableOf_6 : decode cX8_variableOf 6 = .ok (.goto 4, 3) := by decide +kernel
theorem dX8_variableOf_9 : decode cX8_variableOf 9 = .ok (.iload_n 0, 1) := by decide +kernel
theorem dX8_variableOf_10 : decode cX8_variableOf 10 = .ok (.ireturn, 1) := by decide +kernel
theorem dX8_bitOf_0 : decode cX8_bitOf 0 = .ok (.iconst 1, 1) := by decide +kernel
theorem dX8_bitOf_1 : decode cX8_bitOf 1 = .ok (.iload_n 0, 1) := by decide +kernel
theorem dX8_bitOf_2 : decode cX8_bitOf 2 = .ok (.ifCond .ge 8, 3) := by decide +kernel
theorem dX8_bitOf_5 : decode cX8_bitOf 5 = .ok (.iload_n 0, 1) := by decide +kernel
theorem dX8_bitOf_6 : decode cX8_bitOf 6 = .ok (.ineg, 1) := by decide +kernel
theorem dX8_bitOf_7 : decode cX8_bitOf 7 = .ok (.goto 4, 3) := by decide +kernel
theorem dX8_bitOf_10 : decode cX8_bitOf 10 = .ok (.iload_n 0, 1) := by decide +kernel
theorem dX8_bitOf_11 : decode cX8_bitOf 11 = .ok (.iconst 1, 1) := by decide +kernel
theorem dX8_bitOf_12 : decode cX8_bitOf 12 = .ok (.isub, 1) := by decide +kernel
theorem dX8_bitOf_13 : decode cX8_bitOf 13 = .ok (.ishl, 1) := by decide +kernel
theorem dX8_bitOf_14 : decode cX8_bitOf 14 = .ok (.ireturn, 1) := by decide +kernel
theorem dJ6_bitCount_0f7a4_0 : decode cJ6_bitCount_0f7a4 0 = .ok (.iload_n 0, 1) := by decide +kernel
theorem dJ6_bitCount_0f7a4_1 : decode cJ6_bitCount_0f7a4 1 = .ok (.iload_n 0, 1) := by decide +kernel
theorem dJ6_bitCount_0f7a4_2 : decode cJ6_bitCount_0f7a4 2 = .ok (.iconst 1, 1) := by decide +kernel
theorem dJ6_bitCount_0f7a4_3 : decode cJ6_bitCount_0f7a4 3 = .ok (.iushr, 1) := by decide +kernel
theorem dJ6_bitCount_0f7a4_4 : decode cJ6_bitCount_0f7a4 4 = .ok (.ldc_w 265, 3) := by decide +kernel
theorem dJ6_bitCount_0f7a4_7 : decode cJ6_bitCount_0f7a4 7 = .ok (.iand, 1) := by decide +kernel
theorem dJ6_bitCount_0f7a4_8 : decode cJ6_bitCount_0f7a4 8 = .ok (.isub, 1) := by decide +kernel
theorem dJ6_bitCount_0f7a4_9 : decode cJ6_bitCount_0f7a4 9 = .ok (.istore_n 0, 1) := by decide +kernel
theorem dJ6_bitCount_0f7a4_10 : decode cJ6_bitCount_0f7a4 10 = .ok (.iload_n 0, 1) := by decide +kernel
theorem dJ6_bitCount_0f7a4_11 : decode cJ6_bitCount_0f7a4 11 = .ok (.ldc_w 266, 3) := by decide +kernel
theorem dJ6_bitCount_0f7a4_14 : decode cJ6_bitCount_0f7a4 14 = .ok (.iand, 1) := by decide +kernel
theorem dJ6_bitCount_0f7a4_15 : decode cJ6_bitCount_0f7a4 15 = .ok (.iload_n 0, 1) := by decide +kernel
theorem dJ6_bitCount_0f7a4_16 : decode cJ6_bitCount_0f7a4 16 = .ok (.iconst 2, 1) := by decide +kernel
theorem dJ6_bitCount_0f7a4_17 : decode cJ6_bitCount_0f7a4 17 = .ok (.iushr, 1) := by decide +kernel
theorem dJ6_bitCount_0f7a4_18 : decode cJ6_bitCount_0f7a4 18 = .ok (.ldc_w 266, 3) := by decide +kernel
theorem dJ6_bitCount_0f7a4_21 : decode cJ6_bitCount_0f7a4 21 = .ok (.iand, 1) := by decide +kernel
theorem dJ6_bitCount_0f7a4_22 : decode cJ6_bitCount_0f7a4 22 = .ok (.iadd, 1) := by decide +kernel
theorem dJ6_bitCount_0f7a4_23 : decode cJ6_bitCount_0f7a4 23 = .ok (.istore_n 0, 1) := by decide +kernel
theorem dJ6_bitCount_0f7a4_24 : decode cJ6_bitCount_0f7a4 24 = .ok (.iload_n 0, 1) := by decide +kernel
theorem dJ6_bitCount_0f7a4_25 : decode cJ6_bitCount_0f7a4 25 = .ok (.iload_n 0, 1) := by decide +kernel
theorem dJ6_bitCount_0f7a4_26 : decode cJ6_bitCount_0f7a4 26 = .ok (.iconst 4, 1) := by decide +kernel
theorem dJ6_bitCount_0f7a4_27 : decode cJ6_bitCount_0f7a4 27 = .ok (.iushr, 1) := by decide +kernel
theorem dJ6_bitCount_0f7a4_28 : decode cJ6_bitCount_0f7a4 28 = .ok (.iadd, 1) := by decide +kernel
theorem dJ6_bitCount_0f7a4_29 : decode cJ6_bitCount_0f7a4 29 = .ok (.ldc_w 267, 3) := by decide +kernel
theorem dJ6_bitCount_0f7a4_32 : decode cJ6_bitCount_0f7a4 32 = .ok (.iand, 1) := by decide +kernel
theorem dJ6_bitCount_0f7a4_33 : decode cJ6_bitCount_0f7a4 33 = .ok (.istore_n 0, 1) := by decide +kernel
theorem dJ6_bitCount_0f7a4_34 : decode cJ6_bitCount_0f7a4 34 = .ok (.iload_n 0, 1) := by decide +kernel
theorem dJ6_bitCount_0f7a4_35 : decode cJ6_bitCount_0f7a4 35 = .ok (.iload_n 0, 1) := by decide +kernel
theorem dJ6_bitCount_0f7a4_36 : decode cJ6_bitCount_0f7a4 36 = .ok (.bipush 8, 2) := by decide +kernel
theorem dJ6_bitCount_0f7a4_38 : decode cJ6_bitCount_0f7a4 38 = .ok (.iushr, 1) := by decide +kernel
theorem dJ6_bitCount_0f7a4_39 : decode cJ6_bitCount_0f7a4 39 = .ok (.iadd, 1) := by decide +kernel
theorem dJ6_bitCount_0f7a4_40 : decode cJ6_bitCount_0f7a4 40 = .ok (.istore_n 0, 1) := by decide +kernel
theorem dJ6_bitCount_0f7a4_41 : decode cJ6_bitCount_0f7a4 41 = .ok (.iload_n 0, 1) := by decide +kernel
theorem dJ6_bitCount_0f7a4_42 : decode cJ6_bitCount_0f7a4 42 = .ok (.iload_n 0, 1) := by decide +kernel
theorem dJ6_bitCount_0f7a4_43 : decode cJ6_bitCount_0f7a4 43 = .ok (.bipush 16, 2) := by decide +kernel
theorem dJ6_bitCount_0f7a4_45 : decode cJ6_bitCount_0f7a4 45 = .ok (.iushr, 1) := by decide +kernel
theorem dJ6_bitCount_0f7a4_46 : decode cJ6_bitCount_0f7a4 46 = .ok (.iadd, 1) := by decide +kernel
theorem dJ6_bitCount_0f7a4_47 : decode cJ6_bitCount_0f7a4 47 = .ok (.istore_n 0, 1) := by decide +kernel
theorem dJ6_bitCount_0f7a4_48 : decode cJ6_bitCount_0f7a4 48 = .ok (.iload_n 0, 1) := by decide +kernel
theorem dJ6_bitCount_0f7a4_49 : decode cJ6_bitCount_0f7a4 49 = .ok (.bipush 63, 2) := by decide +kernel
theorem dJ6_bitCount_0f7a4_51 : decode cJ6_bitCount_0f7a4 51 = .ok (.iand, 1) := by decide +kernel
theorem dJ6_bitCount_0f7a4_52 : decode cJ6_bitCount_0f7a4 52 = .ok (.ireturn, 1) := by decide +kernel
theorem dJ13_bitCount_95d88_0 : decode cJ13_bitCount_95d88 0 = .ok (.lload_n 0, 1) := by decide +kernel
theorem dJ13_bitCount_95d88_1 : decode cJ13_bitCount_95d88 1 = .ok (.lload_n 0, 1) := by decide +kernel
theorem dJ13_bitCount_95d88_2 : decode cJ13_bitCount_95d88 2 = .ok (.iconst 1, 1) := by decide +kernel
theorem dJ13_bitCount_95d88_3 : decode cJ13_bitCount_95d88 3 = .ok (.lushr, 1) := by decide +kernel
theorem dJ13_bitCount_95d88_4 : decode cJ13_bitCount_95d88 4 = .ok (.ldc2_w 314, 3) := by decide +kernel
theorem dJ13_bitCount_95d88_7 : decode cJ13_bitCount_95d88 7 = .ok (.land, 1) := by decide +kernel
theorem dJ13_bitCount_95d88_8 : decode cJ13_bitCount_95d88 8 = .ok (.lsub, 1) := by decide +kernel
theorem dJ13_bitCount_95d88_9 : decode cJ13_bitCount_95d88 9 = .ok (.lstore_n 0, 1) := by decide +kernel
theorem dJ13_bitCount_95d88_10 : decode cJ13_bitCount_95d88 10 = .ok (.lload_n 0, 1) := by decide +kernel
theorem dJ13_bitCount_95d88_11 : decode cJ13_bitCount_95d88 11 = .ok (.ldc2_w 316, 3) := by decide +kernel
theorem dJ13_bitCount_95d88_14 : decode cJ13_bitCount_95d88 14 = .ok (.land, 1) := by decide +kernel
theorem dJ13_bitCount_95d88_15 : decode cJ13_bitCount_95d88 15 = .ok (.lload_n 0, 1) := by decide +kernel
theorem dJ13_bitCount_95d88_16 : decode cJ13_bitCount_95d88 16 = .ok (.iconst 2, 1) := by decide +kernel
theorem dJ13_bitCount_95d88_17 : decode cJ13_bitCount_95d88 17 = .ok (.lushr, 1) := by decide +kernel
theorem dJ13_bitCount_95d88_18 : decode cJ13_bitCount_95d88 18 = .ok (.ldc2_w 316, 3) := by decide +kernel
theorem dJ13_bitCount_95d88_21 : decode cJ13_bitCount_95d88 21 = .ok (.land, 1) := by decide +kernel
theorem dJ13_bitCount_95d88_22 : decode cJ13_bitCount_95d88 22 = .ok (.ladd, 1) := by decide +kernel
theorem dJ13_bitCount_95d88_23 : decode cJ13_bitCount_95d88 23 = .ok (.lstore_n 0, 1) := by decide +kernel
theorem dJ13_bitCount_95d88_24 : decode cJ13_bitCount_95d88 24 = .ok (.lload_n 0, 1) := by decide +kernel
theorem dJ13_bitCount_95d88_25 : decode cJ13_bitCount_95d88 25 = .ok (.lload_n 0, 1) := by decide +kernel
theorem dJ13_bitCount_95d88_26 : decode cJ13_bitCount_95d88 26 = .ok (.iconst 4, 1) := by decide +kernel
theorem dJ13_bitCount_95d88_27 : decode cJ13_bitCount_95d88 27 = .ok (.lushr, 1) := by decide +kernel
theorem dJ13_bitCount_95d88_28 : decode cJ13_bitCount_95d88 28 = .ok (.ladd, 1) := by decide +kernel
theorem dJ13_bitCount_95d88_29 : decode cJ13_bitCount_95d88 29 = .ok (.ldc2_w 318, 3) := by decide +kernel
theorem dJ13_bitCount_95d88_32 : decode cJ13_bitCount_95d88 32 = .ok (.land, 1) := by decide +kernel
theorem dJ13_bitCount_95d88_33 : decode cJ13_bitCount_95d88 33 = .ok (.lstore_n 0, 1) := by decide +kernel
theorem dJ13_bitCount_95d88_34 : decode cJ13_bitCount_95d88 34 = .ok (.lload_n 0, 1) := by decide +kernel
theorem dJ13_bitCount_95d88_35 : decode cJ13_bitCount_95d88 35 = .ok (.lload_n 0, 1) := by decide +kernel
theorem dJ13_bitCount_95d88_36 : decode cJ13_bitCount_95d88 36 = .ok (.bipush 8, 2) := by decide +kernel
theorem dJ13_bitCount_95d88_38 : decode cJ13_bitCount_95d88 38 = .ok (.lushr, 1) := by decide +kernel
theorem dJ13_bitCount_95d88_39 : decode cJ13_bitCount_95d88 39 = .ok (.ladd, 1) := by decide +kernel
theorem dJ13_bitCount_95d88_40 : decode cJ13_bitCount_95d88 40 = .ok (.lstore_n 0, 1) := by decide +kernel
theorem dJ13_bitCount_95d88_41 : decode cJ13_bitCount_95d88 41 = .ok (.lload_n 0, 1) := by decide +kernel
theorem dJ13_bitCount_95d88_42 : decode cJ13_bitCount_95d88 42 = .ok (.lload_n 0, 1) := by decide +kernel
theorem dJ13_bitCount_95d88_43 : decode cJ13_bitCount_95d88 43 = .ok (.bipush 16, 2) := by decide +kernel
theorem dJ13_bitCount_95d88_45 : decode cJ13_bitCount_95d88 45 = .ok (.lushr, 1) := by decide +kernel
theorem dJ13_bitCount_95d88_46 : decode cJ13_bitCount_95d88 46 = .ok (.ladd, 1) := by decide +kernel
theorem dJ13_bitCount_95d88_47 : decode cJ13_bitCount_95d88 47 = .ok (.lstore_n 0, 1) := by decide +kernel
theorem dJ13_bitCount_95d88_48 : decode cJ13_bitCount_95d88 48 = .ok (.lload_n 0, 1) := by decide +kernel
theorem dJ13_bitCount_95d88_49 : decode cJ13_bitCount_95d88 49 = .ok (.lload_n 0, 1) := by decide +kernel
theorem dJ13_bitCount_95d88_50 : decode cJ13_bitCount_95d88 50 = .ok (.bipush 32, 2) := by decide +kernel
theorem dJ13_bitCount_95d88_52 : decode cJ13_bitCount_95d88 52 = .ok (.lushr, 1) := by decide +kernel
theorem dJ13_bitCount_95d88_53 : decode cJ13_bitCount_95d88 53 = .ok (.ladd, 1) := by decide +kernel
theorem dJ13_bitCount_95d88_54 : decode cJ13_bitCount_95d88 54 = .ok (.lstore_n 0, 1) := by decide +kernel
theorem dJ13_bitCount_95d88_55 : decode cJ13_bitCount_95d88 55 = .ok (.lload_n 0, 1) := by decide +kernel
theorem dJ13_bitCount_95d88_56 : decode cJ13_bitCount_95d88 56 = .ok (.l2i, 1) := by decide +kernel
theorem dJ13_bitCount_95d88_57 : decode cJ13_bitCount_95d88 57 = .ok (.bipush 127, 2) := by decide +kernel
theorem dJ13_bitCount_95d88_59 : decode cJ13_bitCount_95d88 59 = .ok (.iand, 1) := by decide +kernel
theorem dJ13_bitCount_95d88_60 : decode cJ13_bitCount_95d88 60 = .ok (.ireturn, 1) := by decide +kernel
theorem dJ9_max_7cf53_0 : decode cJ9_max_7cf53 0 = .ok (.iload_n 0, 1) := by decide +kernel
theorem dJ9_max_7cf53_1 : decode cJ9_max_7cf53 1 = .ok (.iload_n 1, 1) := by decide +kernel
theorem dJ9_max_7cf53_2 : decode cJ9_max_7cf53 2 = .ok (.if_icmp .lt 7, 3) := by decide +kernel
theorem dJ9_max_7cf53_5 : decode cJ9_max_7cf53 5 = .ok (.iload_n 0, 1) := by decide +kernel
theorem dJ9_max_7cf53_6 : decode cJ9_max_7cf53 6 = .ok (.goto 4, 3) := by decide +kernel
theorem dJ9_max_7cf53_9 : decode cJ9_max_7cf53 9 = .ok (.iload_n 1, 1) := by decide +kernel
theorem dJ9_max_7cf53_10 : decode cJ9_max_7cf53 10 = .ok (.ireturn, 1) := by decide +kernel
theorem dJ9_min_7cf53_0 : decode cJ9_min_7cf53 0 = .ok (.iload_n 0, 1) := by decide +kernel
theorem dJ9_min_7cf53_1 : decode cJ9_min_7cf53 1 = .ok (.iload_n 1, 1) := by decide +kernel
theorem dJ9_min_7cf53_2 : decode cJ9_min_7cf53 2 = .ok (.if_icmp .gt 7, 3) := by decide +kernel
theorem dJ9_min_7cf53_5 : decode cJ9_min_7cf53 5 = .ok (.iload_n 0, 1) := by decide +kernel
theorem dJ9_min_7cf53_6 : decode cJ9_min_7cf53 6 = .ok (.goto 4, 3) := by decide +kernel
theorem dJ9_min_7cf53_9 : decode cJ9_min_7cf53 9 = .ok (.iload_n 1, 1) := by decide +kernel
theorem dJ9_min_7cf53_10 : decode cJ9_min_7cf53 10 = .ok (.ireturn, 1) := by decide +kernel
theorem dJ0_length_8abf5_0 : decode cJ0_length_8abf5 0 = .ok (.aload_n 0, 1) := by decide +kernel
theorem dJ0_length_8abf5_1 : decode cJ0_length_8abf5 1 = .ok (.getfield 9, 3) := by decide +kernel
theorem dJ0_length_8abf5_4 : decode cJ0_length_8abf5 4 = .ok (.arraylength, 1) := by decide +kernel
theorem dJ0_length_8abf5_5 : decode cJ0_length_8abf5 5 = .ok (.aload_n 0, 1) := by decide +kernel
theorem dJ0_length_8abf5_6 : decode cJ0_length_8abf5 6 = .ok (.invokevirtual 335, 3) := by decide +kernel
theorem dJ0_length_8abf5_9 : decode cJ0_length_8abf5 9 = .ok (.ishr, 1) := by decide +kernel
theorem dJ0_length_8abf5_10 : decode cJ0_length_8abf5 10 = .ok (.ireturn, 1) := by decide +kernel
theorem dJ0_charAt_5068e_0 : decode cJ0_charAt_5068e 0 = .ok (.aload_n 0, 1) := by decide +kernel
theorem dJ0_charAt_5068e_1 : decode cJ0_charAt_5068e 1 = .ok (.invokevirtual 492, 3) := by decide +kernel
theorem dJ0_charAt_5068e_4 : decode cJ0_charAt_5068e 4 = .ok (.ifCond .eq 12, 3) := by decide +kernel
theorem dJ0_charAt_5068e_7 : decode cJ0_charAt_5068e 7 = .ok (.aload_n 0, 1) := by decide +kernel
theorem dJ0_charAt_5068e_8 : decode cJ0_charAt_5068e 8 = .ok (.getfield 9, 3) := by decide +kernel
theorem dJ0_charAt_5068e_11 : decode cJ0_charAt_5068e 11 = .ok (.iload_n 1, 1) := by decide +kernel
theorem dJ0_charAt_5068e_12 : decode cJ0_charAt_5068e 12 = .ok (.invokestatic 495, 3) := by decide +kernel
theorem dJ0_charAt_5068e_15 : decode cJ0_charAt_5068e 15 = .ok (.ireturn, 1) := by decide +kernel
theorem dJ0_charAt_5068e_16 : decode cJ0_charAt_5068e 16 = .ok (.aload_n 0, 1) := by decide +kernel
theorem dJ0_charAt_5068e_17 : decode cJ0_charAt_5068e 17 = .ok (.getfield 9, 3) := by decide +kernel
theorem dJ0_charAt_5068e_20 : decode cJ0_charAt_5068e 20 = .ok (.iload_n 1, 1) := by decide +kernel
theorem dJ0_charAt_5068e_21 : decode cJ0_charAt_5068e 21 = .ok (.invokestatic 498, 3) := by decide +kernel
theorem dJ0_charAt_5068e_24 : decode cJ0_charAt_5068e 24 = .ok (.ireturn, 1) := by decide +kernel
theorem dJ0_coder_7d493_0 : decode cJ0_coder_7d493 0 = .ok (.getstatic 38, 3) := by decide +kernel
theorem dJ0_coder_7d493_3 : decode cJ0_coder_7d493 3 = .ok (.ifCond .eq 10, 3) := by decide +kernel
theorem dJ0_coder_7d493_6 : decode cJ0_coder_7d493 6 = .ok (.aload_n 0, 1) := by decide +kernel
theorem dJ0_coder_7d493_7 : decode cJ0_coder_7d493 7 = .ok (.getfield 15, 3) := by decide +kernel
theorem dJ0_coder_7d493_10 : decode cJ0_coder_7d493 10 = .ok (.goto 4, 3) := by decide +kernel
theorem dJ0_coder_7d493_13 : decode cJ0_coder_7d493 13 = .ok (.iconst 1, 1) := by decide +kernel
theorem dJ0_coder_7d493_14 : decode cJ0_coder_7d493 14 = .ok (.ireturn, 1) := by decide +kernel
theorem dJ0_isLatin1_aae02_0 : decode cJ0_isLatin1_aae02 0 = .ok (.getstatic 38, 3) := by decide +kernel
theorem dJ0_isLatin1_aae02_3 : decode cJ0_isLatin1_aae02 3 = .ok (.ifCond .eq 14, 3) := by decide +kernel
theorem dJ0_isLatin1_aae02_6 : decode cJ0_isLatin1_aae02 6 = .ok (.aload_n 0, 1) := by decide +kernel
theorem dJ0_isLatin1_aae02_7 : decode cJ0_isLatin1_aae02 7 = .ok (.getfield 15, 3) := by decide +kernel
theorem dJ0_isLatin1_aae02_10 : decode cJ0_isLatin1_aae02 10 = .ok (.ifCond .ne 7, 3) := by decide +kernel
theorem dJ0_isLatin1_aae02_13 : decode cJ0_isLatin1_aae02 13 = .ok (.iconst 1, 1) := by decide +kernel
theorem dJ0_isLatin1_aae02_14 : decode cJ0_isLatin1_aae02 14 = .ok (.goto 4, 3) := by decide +kernel
theorem dJ0_isLatin1_aae02_17 : decode cJ0_isLatin1_aae02 17 = .ok (.iconst 0, 1) := by decide +kernel
theorem dJ0_isLatin1_aae02_18 : decode cJ0_isLatin1_aae02 18 = .ok (.ireturn, 1) := by decide +kernel
theorem dJ0_checkIndex_df160_0 : decode cJ0_checkIndex_df160 0 = .ok (.iload_n 0, 1) := by decide +kernel
theorem dJ0_checkIndex_df160_1 : decode cJ0_checkIndex_df160 1 = .ok (.iload_n 1, 1) := by decide +kernel
theorem dJ0_checkIndex_df160_2 : decode cJ0_checkIndex_df160 2 = .ok (.getstatic 1053, 3) := by decide +kernel
theorem dJ0_checkIndex_df160_5 : decode cJ0_checkIndex_df160 5 = .ok (.invokestatic 1059, 3) := by decide +kernel
theorem dJ0_checkIndex_df160_8 : decode cJ0_checkIndex_df160 8 = .ok (.pop, 1) := by decide +kernel
theorem dJ0_checkIndex_df160_9 : decode cJ0_checkIndex_df160 9 = .ok (.return_, 1) := by decide +kernel
theorem dJ1_charAt_3b067_0 : decode cJ1_charAt_3b067 0 = .ok (.iload_n 1, 1) := by decide +kernel
theorem dJ1_charAt_3b067_1 : decode cJ1_charAt_3b067 1 = .ok (.aload_n 0, 1) := by decide +kernel
theorem dJ1_charAt_3b067_2 : decode cJ1_charAt_3b067 2 = .ok (.arraylength, 1) := by decide +kernel
theorem dJ1_charAt_3b067_3 : decode cJ1_charAt_3b067 3 = .ok (.invokestatic 9, 3) := by decide +kernel
theorem dJ1_charAt_3b067_6 : decode cJ1_charAt_3b067 6 = .ok (.aload_n 0, 1) := by decide +kernel
theorem dJ1_charAt_3b067_7 : decode cJ1_charAt_3b067 7 = .ok (.iload_n 1, 1) := by decide +kernel
theorem dJ1_charAt_3b067_8 : decode cJ1_charAt_3b067 8 = .ok (.baload, 1) := by decide +kernel
theorem dJ1_charAt_3b067_9 : decode cJ1_charAt_3b067 9 = .ok (.sipush 255, 3) := by decide +kernel
theorem dJ1_charAt_3b067_12 : decode cJ1_charAt_3b067 12 = .ok (.iand, 1) := by decide +kernel
theorem dJ1_charAt_3b067_13 : decode cJ1_charAt_3b067 13 = .ok (.i2c, 1) := by decide +kernel
theorem dJ1_charAt_3b067_14 : decode cJ1_charAt_3b067 14 = .ok (.ireturn, 1) := by decide +kernel
theorem dJ2_getChar_3b067_0 : decode cJ2_getChar_3b067 0 = .ok (.getstatic 44, 3) := by decide +kernel
theorem dJ2_getChar_3b067_3 : decode cJ2_getChar_3b067 3 = .ok (.ifCond .ne 25, 3) := by decide +kernel
theorem dJ2_getChar_3b067_6 : decode cJ2_getChar_3b067 6 = .ok (.iload_n 1, 1) := by decide +kernel
theorem dJ2_getChar_3b067_7 : decode cJ2_getChar_3b067 7 = .ok (.ifCond .lt 11, 3) := by decide +kernel
theorem dJ2_getChar_3b067_10 : decode cJ2_getChar_3b067 10 = .ok (.iload_n 1, 1) := by decide +kernel
theorem dJ2_getChar_3b067_11 : decode cJ2_getChar_3b067 11 = .ok (.aload_n 0, 1) := by decide +kernel
theorem dJ2_getChar_3b067_12 : decode cJ2_getChar_3b067 12 = .ok (.invokestatic 48, 3) := by decide +kernel
theorem dJ2_getChar_3b067_15 : decode cJ2_getChar_3b067 15 = .ok (.if_icmp .lt 13, 3) := by decide +kernel
theorem dJ2_getChar_3b067_18 : decode cJ2_getChar_3b067 18 = .ok (.new 52, 3) := by decide +kernel
theorem dJ2_getChar_3b067_21 : decode cJ2_getChar_3b067 21 = .ok (.dup, 1) := by decide +kernel
theorem dJ2_getChar_3b067_22 : decode cJ2_getChar_3b067 22 = .ok (.ldc 54, 2) := by decide +kernel
theorem dJ2_getChar_3b067_24 : decode cJ2_getChar_3b067 24 = .ok (.invokespecial 56, 3) := by decide +kernel
theorem dJ2_getChar_3b067_27 : decode cJ2_getChar_3b067 27 = .ok (.athrow, 1) := by decide +kernel
theorem dJ2_getChar_3b067_28 : decode cJ2_getChar_3b067 28 = .ok (.iload_n 1, 1) := by decide +kernel
theorem dJ2_getChar_3b067_29 : decode cJ2_getChar_3b067 29 = .ok (.iconst 1, 1) := by decide +kernel
theorem dJ2_getChar_3b067_30 : decode cJ2_getChar_3b067 30 = .ok (.ishl, 1) := by decide +kernel
theorem dJ2_getChar_3b067_31 : decode cJ2_getChar_3b067 31 = .ok (.istore_n 1, 1) := by decide +kernel
theorem dJ2_getChar_3b067_32 : decode cJ2_getChar_3b067 32 = .ok (.aload_n 0, 1) := by decide +kernel
theorem dJ2_getChar_3b067_33 : decode cJ2_getChar_3b067 33 = .ok (.iload_n 1, 1) := by decide +kernel
theorem dJ2_getChar_3b067_34 : decode cJ2_getChar_3b067 34 = .ok (.iinc 1 1, 3) := by decide +kernel
theorem dJ2_getChar_3b067_37 : decode cJ2_getChar_3b067 37 = .ok (.baload, 1) := by decide +kernel
theorem dJ2_getChar_3b067_38 : decode cJ2_getChar_3b067 38 = .ok (.sipush 255, 3) := by decide +kernel
theorem dJ2_getChar_3b067_41 : decode cJ2_getChar_3b067 41 = .ok (.iand, 1) := by decide +kernel
theorem dJ2_getChar_3b067_42 : decode cJ2_getChar_3b067 42 = .ok (.getstatic 59, 3) := by decide +kernel
theorem dJ2_getChar_3b067_45 : decode cJ2_getChar_3b067 45 = .ok (.ishl, 1) := by decide +kernel
theorem dJ2_getChar_3b067_46 : decode cJ2_getChar_3b067 46 = .ok (.aload_n 0, 1) := by decide +kernel
theorem dJ2_getChar_3b067_47 : decode cJ2_getChar_3b067 47 = .ok (.iload_n 1, 1) := by decide +kernel
theorem dJ2_getChar_3b067_48 : decode cJ2_getChar_3b067 48 = .ok (.baload, 1) := by decide +kernel
theorem dJ2_getChar_3b067_49 : decode cJ2_getChar_3b067 49 = .ok (.sipush 255, 3) := by decide +kernel
theorem dJ2_getChar_3b067_52 : decode cJ2_getChar_3b067 52 = .ok (.iand, 1) := by decide +kernel
theorem dJ2_getChar_3b067_53 : decode cJ2_getChar_3b067 53 = .ok (.getstatic 63, 3) := by decide +kernel
theorem dJ2_getChar_3b067_56 : decode cJ2_getChar_3b067 56 = .ok (.ishl, 1) := by decide +kernel
theorem dJ2_getChar_3b067_57 : decode cJ2_getChar_3b067 57 = .ok (.ior, 1) := by decide +kernel
theorem dJ2_getChar_3b067_58 : decode cJ2_getChar_3b067 58 = .ok (.i2c, 1) := by decide +kernel
theorem dJ2_getChar_3b067_59 : decode cJ2_getChar_3b067 59 = .ok (.ireturn, 1) := by decide +kernel
theorem dJ2_length_9d52b_0 : decode cJ2_length_9d52b 0 = .ok (.aload_n 0, 1) := by decide +kernel
theorem dJ2_length_9d52b_1 : decode cJ2_length_9d52b 1 = .ok (.arraylength, 1) := by decide +kernel
theorem dJ2_length_9d52b_2 : decode cJ2_length_9d52b 2 = .ok (.iconst 1, 1) := by decide +kernel
theorem dJ2_length_9d52b_3 : decode cJ2_length_9d52b 3 = .ok (.ishr, 1) := by decide +kernel
theorem dJ2_length_9d52b_4 : decode cJ2_length_9d52b 4 = .ok (.ireturn, 1) := by decide +kernel
theorem dJ2_charAt_3b067_0 : decode cJ2_charAt_3b067 0 = .ok (.iload_n 1, 1) := by decide +kernel
theorem dJ2_charAt_3b067_1 : decode cJ2_charAt_3b067 1 = .ok (.aload_n 0, 1) := by decide +kernel
theorem dJ2_charAt_3b067_2 : decode cJ2_charAt_3b067 2 = .ok (.invokestatic 67, 3) := by decide +kernel
theorem dJ2_charAt_3b067_5 : decode cJ2_charAt_3b067 5 = .ok (.aload_n 0, 1) := by decide +kernel
theorem dJ2_charAt_3b067_6 : decode cJ2_charAt_3b067 6 = .ok (.iload_n 1, 1) := by decide +kernel
theorem dJ2_charAt_3b067_7 : decode cJ2_charAt_3b067 7 = .ok (.invokestatic 71, 3) := by decide +kernel
theorem dJ2_charAt_3b067_10 : decode cJ2_charAt_3b067 10 = .ok (.ireturn, 1) := by decide +kernel
theorem dJ2_checkIndex_2214a_0 : decode cJ2_checkIndex_2214a 0 = .ok (.iload_n 0, 1) := by decide +kernel
theorem dJ2_checkIndex_2214a_1 : decode cJ2_checkIndex_2214a 1 = .ok (.aload_n 1, 1) := by decide +kernel
theorem dJ2_checkIndex_2214a_2 : decode cJ2_checkIndex_2214a 2 = .ok (.invokestatic 48, 3) := by decide +kernel
theorem dJ2_checkIndex_2214a_5 : decode cJ2_checkIndex_2214a 5 = .ok (.invokestatic 414, 3) := by decide +kernel
theorem dJ2_checkIndex_2214a_8 : decode cJ2_checkIndex_2214a 8 = .ok (.return_, 1) := by decide +kernel
theorem dJ7_rangeCheck_23922_0 : decode cJ7_rangeCheck_23922 0 = .ok (.iload_n 1, 1) := by decide +kernel
theorem dJ7_rangeCheck_23922_1 : decode cJ7_rangeCheck_23922 1 = .ok (.iload_n 2, 1) := by decide +kernel
theorem dJ7_rangeCheck_23922_2 : decode cJ7_rangeCheck_23922 2 = .ok (.if_icmp .le 44, 3) := by decide +kernel
theorem dJ7_rangeCheck_23922_5 : decode cJ7_rangeCheck_23922 5 = .ok (.new 43, 3) := by decide +kernel
theorem dJ7_rangeCheck_23922_8 : decode cJ7_rangeCheck_23922 8 = .ok (.dup, 1) := by decide +kernel
theorem dJ7_rangeCheck_23922_9 : decode cJ7_rangeCheck_23922 9 = .ok (.new 45, 3) := by decide +kernel
theorem dJ7_rangeCheck_23922_12 : decode cJ7_rangeCheck_23922 12 = .ok (.dup, 1) := by decide +kernel
theorem dJ7_rangeCheck_23922_13 : decode cJ7_rangeCheck_23922 13 = .ok (.invokespecial 47, 3) := by decide +kernel
theorem dJ7_rangeCheck_23922_16 : decode cJ7_rangeCheck_23922 16 = .ok (.ldc 48, 2) := by decide +kernel
theorem dJ7_rangeCheck_23922_18 : decode cJ7_rangeCheck_23922 18 = .ok (.invokevirtual 50, 3) := by decide +kernel
theorem dJ7_rangeCheck_23922_21 : decode cJ7_rangeCheck_23922 21 = .ok (.iload_n 1, 1) := by decide +kernel
theorem dJ7_rangeCheck_23922_22 : decode cJ7_rangeCheck_23922 22 = .ok (.invokevirtual 54, 3) := by decide +kernel
theorem dJ7_rangeCheck_23922_25 : decode cJ7_rangeCheck_23922 25 = .ok (.ldc 57, 2) := by decide +kernel
theorem dJ7_rangeCheck_23922_27 : decode cJ7_rangeCheck_23922 27 = .ok (.invokevirtual 50, 3) := by decide +kernel
theorem dJ7_rangeCheck_23922_30 : decode cJ7_rangeCheck_23922 30 = .ok (.iload_n 2, 1) := by decide +kernel
theorem dJ7_rangeCheck_23922_31 : decode cJ7_rangeCheck_23922 31 = .ok (.invokevirtual 54, 3) := by decide +kernel
theorem dJ7_rangeCheck_23922_34 : decode cJ7_rangeCheck_23922 34 = .ok (.ldc 59, 2) := by decide +kernel
theorem dJ7_rangeCheck_23922_36 : decode cJ7_rangeCheck_23922 36 = .ok (.invokevirtual 50, 3) := by decide +kernel
theorem dJ7_rangeCheck_23922_39 : decode cJ7_rangeCheck_23922 39 = .ok (.invokevirtual 61, 3) := by decide +kernel
theorem dJ7_rangeCheck_23922_42 : decode cJ7_rangeCheck_23922 42 = .ok (.invokespecial 65, 3) := by decide +kernel
theorem dJ7_rangeCheck_23922_45 : decode cJ7_rangeCheck_23922 45 = .ok (.athrow, 1) := by decide +kernel
theorem dJ7_rangeCheck_23922_46 : decode cJ7_rangeCheck_23922 46 = .ok (.iload_n 1, 1) := by decide +kernel
theorem dJ7_rangeCheck_23922_47 : decode cJ7_rangeCheck_23922 47 = .ok (.ifCond .ge 12, 3) := by decide +kernel
theorem dJ7_rangeCheck_23922_50 : decode cJ7_rangeCheck_23922 50 = .ok (.new 68, 3) := by decide +kernel
theorem dJ7_rangeCheck_23922_53 : decode cJ7_rangeCheck_23922 53 = .ok (.dup, 1) := by decide +kernel
theorem dJ7_rangeCheck_23922_54 : decode cJ7_rangeCheck_23922 54 = .ok (.iload_n 1, 1) := by decide +kernel
theorem dJ7_rangeCheck_23922_55 : decode cJ7_rangeCheck_23922 55 = .ok (.invokespecial 70, 3) := by decide +kernel
theorem dJ7_rangeCheck_23922_58 : decode cJ7_rangeCheck_23922 58 = .ok (.athrow, 1) := by decide +kernel
theorem dJ7_rangeCheck_23922_59 : decode cJ7_rangeCheck_23922 59 = .ok (.iload_n 2, 1) := by decide +kernel
theorem dJ7_rangeCheck_23922_60 : decode cJ7_rangeCheck_23922 60 = .ok (.iload_n 0, 1) := by decide +kernel
theorem dJ7_rangeCheck_23922_61 : decode cJ7_rangeCheck_23922 61 = .ok (.if_icmp .le 12, 3) := by decide +kernel
theorem dJ7_rangeCheck_23922_64 : decode cJ7_rangeCheck_23922 64 = .ok (.new 68, 3) := by decide +kernel
theorem dJ7_rangeCheck_23922_67 : decode cJ7_rangeCheck_23922 67 = .ok (.dup, 1) := by decide +kernel
theorem dJ7_rangeCheck_23922_68 : decode cJ7_rangeCheck_23922 68 = .ok (.iload_n 2, 1) := by decide +kernel
theorem dJ7_rangeCheck_23922_69 : decode cJ7_rangeCheck_23922 69 = .ok (.invokespecial 70, 3) := by decide +kernel
theorem dJ7_rangeCheck_23922_72 : decode cJ7_rangeCheck_23922 72 = .ok (.athrow, 1) := by decide +kernel
theorem dJ7_rangeCheck_23922_73 : decode cJ7_rangeCheck_23922 73 = .ok (.return_, 1) := by decide +kernel
theorem dJ7_fill_bad5a_0 : decode cJ7_fill_bad5a 0 = .ok (.aload_n 0, 1) := by decide +kernel
theorem dJ7_fill_bad5a_1 : decode cJ7_fill_bad5a 1 = .ok (.arraylength, 1) := by decide +kernel
theorem dJ7_fill_bad5a_2 : decode cJ7_fill_bad5a 2 = .ok (.iload_n 1, 1) := by decide +kernel
theorem dJ7_fill_bad5a_3 : decode cJ7_fill_bad5a 3 = .ok (.iload_n 2, 1) := by decide +kernel
theorem dJ7_fill_bad5a_4 : decode cJ7_fill_bad5a 4 = .ok (.invokestatic 13, 3) := by decide +kernel
theorem dJ7_fill_bad5a_7 : decode cJ7_fill_bad5a 7 = .ok (.iload_n 1, 1) := by decide +kernel
theorem dJ7_fill_bad5a_8 : decode cJ7_fill_bad5a 8 = .ok (.istore 5, 2) := by decide +kernel
theorem dJ7_fill_bad5a_10 : decode cJ7_fill_bad5a 10 = .ok (.iload 5, 2) := by decide +kernel
theorem dJ7_fill_bad5a_12 : decode cJ7_fill_bad5a 12 = .ok (.iload_n 2, 1) := by decide +kernel
theorem dJ7_fill_bad5a_13 : decode cJ7_fill_bad5a 13 = .ok (.if_icmp .ge 14, 3) := by decide +kernel
theorem dJ7_fill_bad5a_16 : decode cJ7_fill_bad5a 16 = .ok (.aload_n 0, 1) := by decide +kernel
theorem dJ7_fill_bad5a_17 : decode cJ7_fill_bad5a 17 = .ok (.iload 5, 2) := by decide +kernel
theorem dJ7_fill_bad5a_19 : decode cJ7_fill_bad5a 19 = .ok (.lload_n 3, 1) := by decide +kernel
theorem dJ7_fill_bad5a_20 : decode cJ7_fill_bad5a 20 = .ok (.lastore, 1) := by decide +kernel
theorem dJ7_fill_bad5a_21 : decode cJ7_fill_bad5a 21 = .ok (.iinc 5 1, 3) := by decide +kernel
theorem dJ7_fill_bad5a_24 : decode cJ7_fill_bad5a 24 = .ok (.goto (-14), 3) := by decide +kernel
theorem dJ7_fill_bad5a_27 : decode cJ7_fill_bad5a 27 = .ok (.return_, 1) := by decide +kernel
theorem dJ7_copyOf_59c91_0 : decode cJ7_copyOf_59c91 0 = .ok (.iload_n 1, 1) := by decide +kernel
theorem dJ7_copyOf_59c91_1 : decode cJ7_copyOf_59c91 1 = .ok (.aload_n 0, 1) := by decide +kernel
theorem dJ7_copyOf_59c91_2 : decode cJ7_copyOf_59c91 2 = .ok (.arraylength, 1) := by decide +kernel
theorem dJ7_copyOf_59c91_3 : decode cJ7_copyOf_59c91 3 = .ok (.if_icmp .ne 11, 3) := by decide +kernel
theorem dJ7_copyOf_59c91_6 : decode cJ7_copyOf_59c91 6 = .ok (.aload_n 0, 1) := by decide +kernel
theorem dJ7_copyOf_59c91_7 : decode cJ7_copyOf_59c91 7 = .ok (.invokevirtual 316, 3) := by decide +kernel
theorem dJ7_copyOf_59c91_10 : decode cJ7_copyOf_59c91 10 = .ok (.checkcast 317, 3) := by decide +kernel
theorem dJ7_copyOf_59c91_13 : decode cJ7_copyOf_59c91 13 = .ok (.areturn, 1) := by decide +kernel
theorem dJ7_copyOf_59c91_14 : decode cJ7_copyOf_59c91 14 = .ok (.iload_n 1, 1) := by decide +kernel
theorem dJ7_copyOf_59c91_15 : decode cJ7_copyOf_59c91 15 = .ok (.newarray .int, 2) := by decide +kernel
theorem dJ7_copyOf_59c91_17 : decode cJ7_copyOf_59c91 17 = .ok (.astore_n 2, 1) := by decide +kernel
theorem dJ7_copyOf_59c91_18 : decode cJ7_copyOf_59c91 18 = .ok (.aload_n 0, 1) := by decide +kernel
theorem dJ7_copyOf_59c91_19 : decode cJ7_copyOf_59c91 19 = .ok (.iconst 0, 1) := by decide +kernel
theorem dJ7_copyOf_59c91_20 : decode cJ7_copyOf_59c91 20 = .ok (.aload_n 2, 1) := by decide +kernel
theorem dJ7_copyOf_59c91_21 : decode cJ7_copyOf_59c91 21 = .ok (.iconst 0, 1) := by decide +kernel
theorem dJ7_copyOf_59c91_22 : decode cJ7_copyOf_59c91 22 = .ok (.aload_n 0, 1) := by decide +kernel
theorem dJ7_copyOf_59c91_23 : decode cJ7_copyOf_59c91 23 = .ok (.arraylength, 1) := by decide +kernel
theorem dJ7_copyOf_59c91_24 : decode cJ7_copyOf_59c91 24 = .ok (.iload_n 1, 1) := by decide +kernel
theorem dJ7_copyOf_59c91_25 : decode cJ7_copyOf_59c91 25 = .ok (.invokestatic 304, 3) := by decide +kernel
theorem dJ7_copyOf_59c91_28 : decode cJ7_copyOf_59c91 28 = .ok (.invokestatic 150, 3) := by decide +kernel
theorem dJ7_copyOf_59c91_31 : decode cJ7_copyOf_59c91 31 = .ok (.aload_n 2, 1) := by decide +kernel
theorem dJ7_copyOf_59c91_32 : decode cJ7_copyOf_59c91 32 = .ok (.areturn, 1) := by decide +kernel
theorem dJ3_checkIndex_8e157_0 : decode cJ3_checkIndex_8e157 0 = .ok (.iload_n 0, 1) := by decide +kernel
theorem dJ3_checkIndex_8e157_1 : decode cJ3_checkIndex_8e157 1 = .ok (.ifCond .lt 8, 3) := by decide +kernel
theorem dJ3_checkIndex_8e157_4 : decode cJ3_checkIndex_8e157 4 = .ok (.iload_n 0, 1) := by decide +kernel
theorem dJ3_checkIndex_8e157_5 : decode cJ3_checkIndex_8e157 5 = .ok (.iload_n 1, 1) := by decide +kernel
theorem dJ3_checkIndex_8e157_6 : decode cJ3_checkIndex_8e157 6 = .ok (.if_icmp .lt 10, 3) := by decide +kernel
theorem dJ3_checkIndex_8e157_9 : decode cJ3_checkIndex_8e157 9 = .ok (.aload_n 2, 1) := by decide +kernel
theorem dJ3_checkIndex_8e157_10 : decode cJ3_checkIndex_8e157 10 = .ok (.iload_n 0, 1) := by decide +kernel
theorem dJ3_checkIndex_8e157_11 : decode cJ3_checkIndex_8e157 11 = .ok (.iload_n 1, 1) := by decide +kernel
theorem dJ3_checkIndex_8e157_12 : decode cJ3_checkIndex_8e157 12 = .ok (.invokestatic 95, 3) := by decide +kernel
theorem dJ3_checkIndex_8e157_15 : decode cJ3_checkIndex_8e157 15 = .ok (.athrow, 1) := by decide +kernel
theorem dJ3_checkIndex_8e157_16 : decode cJ3_checkIndex_8e157 16 = .ok (.iload_n 0, 1) := by decide +kernel
theorem dJ3_checkIndex_8e157_17 : decode cJ3_checkIndex_8e157 17 = .ok (.ireturn, 1) := by decide +kernel
theorem dL_clause_0 : decode cL_clause 0 = .ok (.aload_n 3, 1) := by decide +kernel
theorem dL_clause_1 : decode cL_clause 1 = .ok (.iconst 0, 1) := by decide +kernel
theorem dL_clause_2 : decode cL_clause 2 = .ok (.aload_n 0, 1) := by decide +kernel
theorem dL_clause_3 : decode cL_clause 3 = .ok (.iload_n 1, 1) := by decide +kernel
theorem dL_clause_4 : decode cL_clause 4 = .ok (.iload_n 2, 1) := by decide +kernel
theorem dL_clause_5 : decode cL_clause 5 = .ok (.invokevirtual 7, 3) := by decide +kernel
theorem dL_clause_8 : decode cL_clause 8 = .ok (.i2l, 1) := by decide +kernel
theorem dL_clause_9 : decode cL_clause 9 = .ok (.lastore, 1) := by decide +kernel
theorem dL_clause_10 : decode cL_clause 10 = .ok (.goto 7, 3) := by decide +kernel
theorem dL_clause_13 : decode cL_clause 13 = .ok (.astore 4, 2) := by decide +kernel
theorem dL_clause_15 : decode cL_clause 15 = .ok (.iconst 1, 1) := by decide +kernel
theorem dL_clause_16 : decode cL_clause 16 = .ok (.ireturn, 1) := by decide +kernel
theorem dL_clause_17 : decode cL_clause 17 = .ok (.iconst 0, 1) := by decide +kernel
theorem dL_clause_18 : decode cL_clause 18 = .ok (.ireturn, 1) := by decide +kernel
theorem dL_law_0 : decode cL_law 0 = .ok (.new 8, 3) := by decide +kernel
theorem dL_law_3 : decode cL_law 3 = .ok (.dup, 1) := by decide +kernel
theorem dL_law_4 : decode cL_law 4 = .ok (.invokespecial 15, 3) := by decide +kernel
theorem dL_law_7 : decode cL_law 7 = .ok (.astore_n 1, 1) := by decide +kernel
theorem dL_law_8 : decode cL_law 8 = .ok (.new 16, 3) := by decide +kernel
theorem dL_law_11 : decode cL_law 11 = .ok (.dup, 1) := by decide +kernel
theorem dL_law_12 : decode cL_law 12 = .ok (.invokespecial 18, 3) := by decide +kernel
theorem dL_law_15 : decode cL_law 15 = .ok (.astore_n 2, 1) := by decide +kernel
theorem dL_law_16 : decode cL_law 16 = .ok (.iconst 1, 1) := by decide +kernel
theorem dL_law_17 : decode cL_law 17 = .ok (.newarray .long, 2) := by decide +kernel
theorem dL_law_19 : decode cL_law 19 = .ok (.astore_n 3, 1) := by decide +kernel
theorem dL_law_20 : decode cL_law 20 = .ok (.iconst 0, 1) := by decide +kernel
theorem dL_law_21 : decode cL_law 21 = .ok (.istore 4, 2) := by decide +kernel
theorem dL_law_23 : decode cL_law 23 = .ok (.iload 4, 2) := by decide +kernel
theorem dL_law_25 : decode cL_law 25 = .ok (.aload_n 0, 1) := by decide +kernel
theorem dL_law_26 : decode cL_law 26 = .ok (.arraylength, 1) := by decide +kernel
theorem dL_law_27 : decode cL_law 27 = .ok (.bipush 6, 2) := by decide +kernel
theorem dL_law_29 : decode cL_law 29 = .ok (.isub, 1) := by decide +kernel
theorem dL_law_30 : decode cL_law 30 = .ok (.if_icmp .gt 867, 3) := by decide +kernel
theorem dL_law_33 : decode cL_law 33 = .ok (.aload_n 0, 1) := by decide +kernel
theorem dL_law_34 : decode cL_law 34 = .ok (.iload 4, 2) := by decide +kernel
theorem dL_law_36 : decode cL_law 36 = .ok (.iaload, 1) := by decide +kernel
theorem dL_law_37 : decode cL_law 37 = .ok (.bipush 31, 2) := by decide +kernel
theorem dL_law_39 : decode cL_law 39 = .ok (.iand, 1) := by decide +kernel
theorem dL_law_40 : decode cL_law 40 = .ok (.tableswitch 851 0 27 #[128, 201, 226, 239, 252, 277, 302, 315, 340, 353, 378, 403, 428, 453, 478, 503, 528, 596, 621, 646, 659, 696, 721, 758, 771, 784, 797, 810], 128) := by decide +kernel
theorem dL_law_168 : decode cL_law 168 = .ok (.aload_n 1, 1) := by decide +kernel
theorem dL_law_169 : decode cL_law 169 = .ok (.aload_n 0, 1) := by decide +kernel
theorem dL_law_170 : decode cL_law 170 = .ok (.iload 4, 2) := by decide +kernel
theorem dL_law_172 : decode cL_law 172 = .ok (.iconst 1, 1) := by decide +kernel
theorem dL_law_173 : decode cL_law 173 = .ok (.iadd, 1) := by decide +kernel
theorem dL_law_174 : decode cL_law 174 = .ok (.iaload, 1) := by decide +kernel
theorem dL_law_175 : decode cL_law 175 = .ok (.aload_n 0, 1) := by decide +kernel
theorem dL_law_176 : decode cL_law 176 = .ok (.iload 4, 2) := by decide +kernel
theorem dL_law_178 : decode cL_law 178 = .ok (.iconst 2, 1) := by decide +kernel
theorem dL_law_179 : decode cL_law 179 = .ok (.iadd, 1) := by decide +kernel
theorem dL_law_180 : decode cL_law 180 = .ok (.iaload, 1) := by decide +kernel
theorem dL_law_181 : decode cL_law 181 = .ok (.aload_n 0, 1) := by decide +kernel
theorem dL_law_182 : decode cL_law 182 = .ok (.iload 4, 2) := by decide +kernel
theorem dL_law_184 : decode cL_law 184 = .ok (.iconst 3, 1) := by decide +kernel
theorem dL_law_185 : decode cL_law 185 = .ok (.iadd, 1) := by decide +kernel
theorem dL_law_186 : decode cL_law 186 = .ok (.iaload, 1) := by decide +kernel
theorem dL_law_187 : decode cL_law 187 = .ok (.aload_n 0, 1) := by decide +kernel
theorem dL_law_188 : decode cL_law 188 = .ok (.iload 4, 2) := by decide +kernel
theorem dL_law_190 : decode cL_law 190 = .ok (.iconst 4, 1) := by decide +kernel
theorem dL_law_191 : decode cL_law 191 = .ok (.iadd, 1) := by decide +kernel
theorem dL_law_192 : decode cL_law 192 = .ok (.iaload, 1) := by decide +kernel
theorem dL_law_193 : decode cL_law 193 = .ok (.aload_n 0, 1) := by decide +kernel
theorem dL_law_194 : decode cL_law 194 = .ok (.iload 4, 2) := by decide +kernel
theorem dL_law_196 : decode cL_law 196 = .ok (.iconst 5, 1) := by decide +kernel
theorem dL_law_197 : decode cL_law 197 = .ok (.iadd, 1) := by decide +kernel
theorem dL_law_198 : decode cL_law 198 = .ok (.iaload, 1) := by decide +kernel
theorem dL_law_199 : decode cL_law 199 = .ok (.invokevirtual 19, 3) := by decide +kernel
theorem dL_law_202 : decode cL_law 202 = .ok (.aload_n 2, 1) := by decide +kernel
theorem dL_law_203 : decode cL_law 203 = .ok (.aload_n 0, 1) := by decide +kernel
theorem dL_law_204 : decode cL_law 204 = .ok (.iload 4, 2) := by decide +kernel
theorem dL_law_206 : decode cL_law 206 = .ok (.iconst 1, 1) := by decide +kernel
theorem dL_law_207 : decode cL_law 207 = .ok (.iadd, 1) := by decide +kernel
theorem dL_law_208 : decode cL_law 208 = .ok (.iaload, 1) := by decide +kernel
theorem dL_law_209 : decode cL_law 209 = .ok (.aload_n 0, 1) := by decide +kernel
theorem dL_law_210 : decode cL_law 210 = .ok (.iload 4, 2) := by decide +kernel
theorem dL_law_212 : decode cL_law 212 = .ok (.iconst 2, 1) := by decide +kernel
theorem dL_law_213 : decode cL_law 213 = .ok (.iadd, 1) := by decide +kernel
theorem dL_law_214 : decode cL_law 214 = .ok (.iaload, 1) := by decide +kernel
theorem dL_law_215 : decode cL_law 215 = .ok (.aload_n 0, 1) := by decide +kernel
theorem dL_law_216 : decode cL_law 216 = .ok (.iload 4, 2) := by decide +kernel
theorem dL_law_218 : decode cL_law 218 = .ok (.iconst 3, 1) := by decide +kernel
theorem dL_law_219 : decode cL_law 219 = .ok (.iadd, 1) := by decide +kernel
theorem dL_law_220 : decode cL_law 220 = .ok (.iaload, 1) := by decide +kernel
theorem dL_law_221 : decode cL_law 221 = .ok (.aload_n 0, 1) := by decide +kernel
theorem dL_law_222 : decode cL_law 222 = .ok (.iload 4, 2) := by decide +kernel
theorem dL_law_224 : decode cL_law 224 = .ok (.iconst 4, 1) := by decide +kernel
theorem dL_law_225 : decode cL_law 225 = .ok (.iadd, 1) := by decide +kernel
theorem dL_law_226 : decode cL_law 226 = .ok (.iaload, 1) := by decide +kernel
theorem dL_law_227 : decode cL_law 227 = .ok (.aload_n 0, 1) := by decide +kernel
theorem dL_law_228 : decode cL_law 228 = .ok (.iload 4, 2) := by decide +kernel
theorem dL_law_230 : decode cL_law 230 = .ok (.iconst 5, 1) := by decide +kernel
theorem dL_law_231 : decode cL_law 231 = .ok (.iadd, 1) := by decide +kernel
theorem dL_law_232 : decode cL_law 232 = .ok (.iaload, 1) := by decide +kernel
theorem dL_law_233 : decode cL_law 233 = .ok (.invokevirtual 23, 3) := by decide +kernel
theorem dL_law_236 : decode cL_law 236 = .ok (.if_icmp .eq 655, 3) := by decide +kernel
theorem dL_law_239 : decode cL_law 239 = .ok (.iconst 0, 1) := by decide +kernel
theorem dL_law_240 : decode cL_law 240 = .ok (.ireturn, 1) := by decide +kernel
theorem dL_law_241 : decode cL_law 241 = .ok (.aload_n 1, 1) := by decide +kernel
theorem dL_law_242 : decode cL_law 242 = .ok (.aload_n 0, 1) := by decide +kernel
theorem dL_law_243 : decode cL_law 243 = .ok (.iload 4, 2) := by decide +kernel
theorem dL_law_245 : decode cL_law 245 = .ok (.iconst 1, 1) := by decide +kernel
theorem dL_law_246 : decode cL_law 246 = .ok (.iadd, 1) := by decide +kernel
theorem dL_law_247 : decode cL_law 247 = .ok (.iaload, 1) := by decide +kernel
theorem dL_law_248 : decode cL_law 248 = .ok (.invokevirtual 24, 3) := by decide +kernel
theorem dL_law_251 : decode cL_law 251 = .ok (.aload_n 2, 1) := by decide +kernel
theorem dL_law_252 : decode cL_law 252 = .ok (.aload_n 0, 1) := by decide +kernel
theorem dL_law_253 : decode cL_law 253 = .ok (.iload 4, 2) := by decide +kernel
theorem dL_law_255 : decode cL_law 255 = .ok (.iconst 1, 1) := by decide +kernel
theorem dL_law_256 : decode cL_law 256 = .ok (.iadd, 1) := by decide +kernel
theorem dL_law_257 : decode cL_law 257 = .ok (.iaload, 1) := by decide +kernel
theorem dL_law_258 : decode cL_law 258 = .ok (.invokevirtual 28, 3) := by decide +kernel
theorem dL_law_261 : decode cL_law 261 = .ok (.if_icmp .eq 630, 3) := by decide +kernel
theorem dL_law_264 : decode cL_law 264 = .ok (.iconst 0, 1) := by decide +kernel
theorem dL_law_265 : decode cL_law 265 = .ok (.ireturn, 1) := by decide +kernel
theorem dL_law_266 : decode cL_law 266 = .ok (.aload_n 1, 1) := by decide +kernel
theorem dL_law_267 : decode cL_law 267 = .ok (.invokevirtual 29, 3) := by decide +kernel
theorem dL_law_270 : decode cL_law 270 = .ok (.aload_n 2, 1) := by decide +kernel
theorem dL_law_271 : decode cL_law 271 = .ok (.invokevirtual 33, 3) := by decide +kernel
theorem dL_law_274 : decode cL_law 274 = .ok (.if_icmp .eq 617, 3) := by decide +kernel
theorem dL_law_277 : decode cL_law 277 = .ok (.iconst 0, 1) := by decide +kernel
theorem dL_law_278 : decode cL_law 278 = .ok (.ireturn, 1) := by decide +kernel
theorem dL_law_279 : decode cL_law 279 = .ok (.aload_n 1, 1) := by decide +kernel
theorem dL_law_280 : decode cL_law 280 = .ok (.invokevirtual 34, 3) := by decide +kernel
theorem dL_law_283 : decode cL_law 283 = .ok (.aload_n 2, 1) := by decide +kernel
theorem dL_law_284 : decode cL_law 284 = .ok (.invokevirtual 37, 3) := by decide +kernel
theorem dL_law_287 : decode cL_law 287 = .ok (.if_icmp .eq 604, 3) := by decide +kernel
theorem dL_law_290 : decode cL_law 290 = .ok (.iconst 0, 1) := by decide +kernel
theorem dL_law_291 : decode cL_law 291 = .ok (.ireturn, 1) := by decide +kernel
theorem dL_law_292 : decode cL_law 292 = .ok (.aload_n 1, 1) := by decide +kernel
theorem dL_law_293 : decode cL_law 293 = .ok (.aload_n 0, 1) := by decide +kernel
theorem dL_law_294 : decode cL_law 294 = .ok (.iload 4, 2) := by decide +kernel
theorem dL_law_296 : decode cL_law 296 = .ok (.iconst 1, 1) := by decide +kernel
theorem dL_law_297 : decode cL_law 297 = .ok (.iadd, 1) := by decide +kernel
theorem dL_law_298 : decode cL_law 298 = .ok (.iaload, 1) := by decide +kernel
theorem dL_law_299 : decode cL_law 299 = .ok (.invokevirtual 38, 3) := by decide +kernel
theorem dL_law_302 : decode cL_law 302 = .ok (.aload_n 2, 1) := by decide +kernel
theorem dL_law_303 : decode cL_law 303 = .ok (.aload_n 0, 1) := by decide +kernel
theorem dL_law_304 : decode cL_law 304 = .ok (.iload 4, 2) := by decide +kernel
theorem dL_law_306 : decode cL_law 306 = .ok (.iconst 1, 1) := by decide +kernel
theorem dL_law_307 : decode cL_law 307 = .ok (.iadd, 1) := by decide +kernel
theorem dL_law_308 : decode cL_law 308 = .ok (.iaload, 1) := by decide +kernel
theorem dL_law_309 : decode cL_law 309 = .ok (.invokevirtual 42, 3) := by decide +kernel
theorem dL_law_312 : decode cL_law 312 = .ok (.if_icmp .eq 579, 3) := by decide +kernel
theorem dL_law_315 : decode cL_law 315 = .ok (.iconst 0, 1) := by decide +kernel
theorem dL_law_316 : decode cL_law 316 = .ok (.ireturn, 1) := by decide +kernel
theorem dL_law_317 : decode cL_law 317 = .ok (.aload_n 1, 1) := by decide +kernel
theorem dL_law_318 : decode cL_law 318 = .ok (.aload_n 0, 1) := by decide +kernel
theorem dL_law_319 : decode cL_law 319 = .ok (.iload 4, 2) := by decide +kernel
theorem dL_law_321 : decode cL_law 321 = .ok (.iconst 1, 1) := by decide +kernel
theorem dL_law_322 : decode cL_law 322 = .ok (.iadd, 1) := by decide +kernel
theorem dL_law_323 : decode cL_law 323 = .ok (.iaload, 1) := by decide +kernel
theorem dL_law_324 : decode cL_law 324 = .ok (.invokevirtual 43, 3) := by decide +kernel
theorem dL_law_327 : decode cL_law 327 = .ok (.aload_n 2, 1) := by decide +kernel
theorem dL_law_328 : decode cL_law 328 = .ok (.aload_n 0, 1) := by decide +kernel
theorem dL_law_329 : decode cL_law 329 = .ok (.iload 4, 2) := by decide +kernel
theorem dL_law_331 : decode cL_law 331 = .ok (.iconst 1, 1) := by decide +kernel
theorem dL_law_332 : decode cL_law 332 = .ok (.iadd, 1) := by decide +kernel
theorem dL_law_333 : decode cL_law 333 = .ok (.iaload, 1) := by decide +kernel
theorem dL_law_334 : decode cL_law 334 = .ok (.invokevirtual 46, 3) := by decide +kernel
theorem dL_law_337 : decode cL_law 337 = .ok (.if_icmp .eq 554, 3) := by decide +kernel
theorem dL_law_340 : decode cL_law 340 = .ok (.iconst 0, 1) := by decide +kernel
theorem dL_law_341 : decode cL_law 341 = .ok (.ireturn, 1) := by decide +kernel
theorem dL_law_342 : decode cL_law 342 = .ok (.aload_n 1, 1) := by decide +kernel
theorem dL_law_343 : decode cL_law 343 = .ok (.invokevirtual 47, 3) := by decide +kernel
theorem dL_law_346 : decode cL_law 346 = .ok (.aload_n 2, 1) := by decide +kernel
theorem dL_law_347 : decode cL_law 347 = .ok (.invokevirtual 50, 3) := by decide +kernel
theorem dL_law_350 : decode cL_law 350 = .ok (.if_icmp .eq 541, 3) := by decide +kernel
theorem dL_law_353 : decode cL_law 353 = .ok (.iconst 0, 1) := by decide +kernel
theorem dL_law_354 : decode cL_law 354 = .ok (.ireturn, 1) := by decide +kernel
theorem dL_law_355 : decode cL_law 355 = .ok (.aload_n 1, 1) := by decide +kernel
theorem dL_law_356 : decode cL_law 356 = .ok (.aload_n 0, 1) := by decide +kernel
theorem dL_law_357 : decode cL_law 357 = .ok (.iload 4, 2) := by decide +kernel
theorem dL_law_359 : decode cL_law 359 = .ok (.iconst 1, 1) := by decide +kernel
theorem dL_law_360 : decode cL_law 360 = .ok (.iadd, 1) := by decide +kernel
theorem dL_law_361 : decode cL_law 361 = .ok (.iaload, 1) := by decide +kernel
theorem dL_law_362 : decode cL_law 362 = .ok (.invokevirtual 51, 3) := by decide +kernel
theorem dL_law_365 : decode cL_law 365 = .ok (.aload_n 2, 1) := by decide +kernel
theorem dL_law_366 : decode cL_law 366 = .ok (.aload_n 0, 1) := by decide +kernel
theorem dL_law_367 : decode cL_law 367 = .ok (.iload 4, 2) := by decide +kernel
theorem dL_law_369 : decode cL_law 369 = .ok (.iconst 1, 1) := by decide +kernel
theorem dL_law_370 : decode cL_law 370 = .ok (.iadd, 1) := by decide +kernel
theorem dL_law_371 : decode cL_law 371 = .ok (.iaload, 1) := by decide +kernel
theorem dL_law_372 : decode cL_law 372 = .ok (.invokevirtual 54, 3) := by decide +kernel
theorem dL_law_375 : decode cL_law 375 = .ok (.if_icmp .eq 516, 3) := by decide +kernel
theorem dL_law_378 : decode cL_law 378 = .ok (.iconst 0, 1) := by decide +kernel
theorem dL_law_379 : decode cL_law 379 = .ok (.ireturn, 1) := by decide +kernel
theorem dL_law_380 : decode cL_law 380 = .ok (.aload_n 1, 1) := by decide +kernel
theorem dL_law_381 : decode cL_law 381 = .ok (.invokevirtual 55, 3) := by decide +kernel
theorem dL_law_384 : decode cL_law 384 = .ok (.aload_n 2, 1) := by decide +kernel
theorem dL_law_385 : decode cL_law 385 = .ok (.invokevirtual 58, 3) := by decide +kernel
theorem dL_law_388 : decode cL_law 388 = .ok (.if_icmp .eq 503, 3) := by decide +kernel
theorem dL_law_391 : decode cL_law 391 = .ok (.iconst 0, 1) := by decide +kernel
theorem dL_law_392 : decode cL_law 392 = .ok (.ireturn, 1) := by decide +kernel
theorem dL_law_393 : decode cL_law 393 = .ok (.aload_n 1, 1) := by decide +kernel
theorem dL_law_394 : decode cL_law 394 = .ok (.aload_n 0, 1) := by decide +kernel
theorem dL_law_395 : decode cL_law 395 = .ok (.iload 4, 2) := by decide +kernel
theorem dL_law_397 : decode cL_law 397 = .ok (.iconst 1, 1) := by decide +kernel
theorem dL_law_398 : decode cL_law 398 = .ok (.iadd, 1) := by decide +kernel
theorem dL_law_399 : decode cL_law 399 = .ok (.iaload, 1) := by decide +kernel
theorem dL_law_400 : decode cL_law 400 = .ok (.invokevirtual 59, 3) := by decide +kernel
theorem dL_law_403 : decode cL_law 403 = .ok (.aload_n 2, 1) := by decide +kernel
theorem dL_law_404 : decode cL_law 404 = .ok (.aload_n 0, 1) := by decide +kernel
theorem dL_law_405 : decode cL_law 405 = .ok (.iload 4, 2) := by decide +kernel
theorem dL_law_407 : decode cL_law 407 = .ok (.iconst 1, 1) := by decide +kernel
theorem dL_law_408 : decode cL_law 408 = .ok (.iadd, 1) := by decide +kernel
theorem dL_law_409 : decode cL_law 409 = .ok (.iaload, 1) := by decide +kernel
theorem dL_law_410 : decode cL_law 410 = .ok (.invokevirtual 62, 3) := by decide +kernel
theorem dL_law_413 : decode cL_law 413 = .ok (.if_icmp .eq 478, 3) := by decide +kernel
theorem dL_law_416 : decode cL_law 416 = .ok (.iconst 0, 1) := by decide +kernel
theorem dL_law_417 : decode cL_law 417 = .ok (.ireturn, 1) := by decide +kernel
theorem dL_law_418 : decode cL_law 418 = .ok (.aload_n 1, 1) := by decide +kernel
theorem dL_law_419 : decode cL_law 419 = .ok (.aload_n 0, 1) := by decide +kernel
theorem dL_law_420 : decode cL_law 420 = .ok (.iload 4, 2) := by decide +kernel
theorem dL_law_422 : decode cL_law 422 = .ok (.iconst 1, 1) := by decide +kernel
theorem dL_law_423 : decode cL_law 423 = .ok (.iadd, 1) := by decide +kernel
theorem dL_law_424 : decode cL_law 424 = .ok (.iaload, 1) := by decide +kernel
theorem dL_law_425 : decode cL_law 425 = .ok (.invokevirtual 63, 3) := by decide +kernel
theorem dL_law_428 : decode cL_law 428 = .ok (.aload_n 2, 1) := by decide +kernel
theorem dL_law_429 : decode cL_law 429 = .ok (.aload_n 0, 1) := by decide +kernel
theorem dL_law_430 : decode cL_law 430 = .ok (.iload 4, 2) := by decide +kernel
theorem dL_law_432 : decode cL_law 432 = .ok (.iconst 1, 1) := by decide +kernel
theorem dL_law_433 : decode cL_law 433 = .ok (.iadd, 1) := by decide +kernel
theorem dL_law_434 : decode cL_law 434 = .ok (.iaload, 1) := by decide +kernel
theorem dL_law_435 : decode cL_law 435 = .ok (.invokevirtual 66, 3) := by decide +kernel
theorem dL_law_438 : decode cL_law 438 = .ok (.if_icmp .eq 453, 3) := by decide +kernel
theorem dL_law_441 : decode cL_law 441 = .ok (.iconst 0, 1) := by decide +kernel
theorem dL_law_442 : decode cL_law 442 = .ok (.ireturn, 1) := by decide +kernel
theorem dL_law_443 : decode cL_law 443 = .ok (.aload_n 1, 1) := by decide +kernel
theorem dL_law_444 : decode cL_law 444 = .ok (.aload_n 0, 1) := by decide +kernel
theorem dL_law_445 : decode cL_law 445 = .ok (.iload 4, 2) := by decide +kernel
theorem dL_law_447 : decode cL_law 447 = .ok (.iconst 1, 1) := by decide +kernel
theorem dL_law_448 : decode cL_law 448 = .ok (.iadd, 1) := by decide +kernel
theorem dL_law_449 : decode cL_law 449 = .ok (.iaload, 1) := by decide +kernel
theorem dL_law_450 : decode cL_law 450 = .ok (.invokevirtual 67, 3) := by decide +kernel
theorem dL_law_453 : decode cL_law 453 = .ok (.aload_n 2, 1) := by decide +kernel
theorem dL_law_454 : decode cL_law 454 = .ok (.aload_n 0, 1) := by decide +kernel
theorem dL_law_455 : decode cL_law 455 = .ok (.iload 4, 2) := by decide +kernel
theorem dL_law_457 : decode cL_law 457 = .ok (.iconst 1, 1) := by decide +kernel
theorem dL_law_458 : decode cL_law 458 = .ok (.iadd, 1) := by decide +kernel
theorem dL_law_459 : decode cL_law 459 = .ok (.iaload, 1) := by decide +kernel
theorem dL_law_460 : decode cL_law 460 = .ok (.invokevirtual 70, 3) := by decide +kernel
theorem dL_law_463 : decode cL_law 463 = .ok (.if_icmp .eq 428, 3) := by decide +kernel
theorem dL_law_466 : decode cL_law 466 = .ok (.iconst 0, 1) := by decide +kernel
theorem dL_law_467 : decode cL_law 467 = .ok (.ireturn, 1) := by decide +kernel
theorem dL_law_468 : decode cL_law 468 = .ok (.aload_n 1, 1) := by decide +kernel
theorem dL_law_469 : decode cL_law 469 = .ok (.aload_n 0, 1) := by decide +kernel
theorem dL_law_470 : decode cL_law 470 = .ok (.iload 4, 2) := by decide +kernel
theorem dL_law_472 : decode cL_law 472 = .ok (.iconst 1, 1) := by decide +kernel
theorem dL_law_473 : decode cL_law 473 = .ok (.iadd, 1) := by decide +kernel
theorem dL_law_474 : decode cL_law 474 = .ok (.iaload, 1) := by decide +kernel
theorem dL_law_475 : decode cL_law 475 = .ok (.invokevirtual 71, 3) := by decide +kernel
theorem dL_law_478 : decode cL_law 478 = .ok (.aload_n 2, 1) := by decide +kernel
theorem dL_law_479 : decode cL_law 479 = .ok (.aload_n 0, 1) := by decide +kernel
theorem dL_law_480 : decode cL_law 480 = .ok (.iload 4, 2) := by decide +kernel
theorem dL_law_482 : decode cL_law 482 = .ok (.iconst 1, 1) := by decide +kernel
theorem dL_law_483 : decode cL_law 483 = .ok (.iadd, 1) := by decide +kernel
theorem dL_law_484 : decode cL_law 484 = .ok (.iaload, 1) := by decide +kernel
theorem dL_law_485 : decode cL_law 485 = .ok (.invokevirtual 74, 3) := by decide +kernel
theorem dL_law_488 : decode cL_law 488 = .ok (.if_icmp .eq 403, 3) := by decide +kernel
theorem dL_law_491 : decode cL_law 491 = .ok (.iconst 0, 1) := by decide +kernel
theorem dL_law_492 : decode cL_law 492 = .ok (.ireturn, 1) := by decide +kernel
theorem dL_law_493 : decode cL_law 493 = .ok (.aload_n 1, 1) := by decide +kernel
theorem dL_law_494 : decode cL_law 494 = .ok (.aload_n 0, 1) := by decide +kernel
theorem dL_law_495 : decode cL_law 495 = .ok (.iload 4, 2) := by decide +kernel
theorem dL_law_497 : decode cL_law 497 = .ok (.iconst 1, 1) := by decide +kernel
theorem dL_law_498 : decode cL_law 498 = .ok (.iadd, 1) := by decide +kernel
theorem dL_law_499 : decode cL_law 499 = .ok (.iaload, 1) := by decide +kernel
theorem dL_law_500 : decode cL_law 500 = .ok (.invokevirtual 75, 3) := by decide +kernel
theorem dL_law_503 : decode cL_law 503 = .ok (.aload_n 2, 1) := by decide +kernel
theorem dL_law_504 : decode cL_law 504 = .ok (.aload_n 0, 1) := by decide +kernel
theorem dL_law_505 : decode cL_law 505 = .ok (.iload 4, 2) := by decide +kernel
theorem dL_law_507 : decode cL_law 507 = .ok (.iconst 1, 1) := by decide +kernel
theorem dL_law_508 : decode cL_law 508 = .ok (.iadd, 1) := by decide +kernel
theorem dL_law_509 : decode cL_law 509 = .ok (.iaload, 1) := by decide +kernel
theorem dL_law_510 : decode cL_law 510 = .ok (.invokevirtual 78, 3) := by decide +kernel
theorem dL_law_513 : decode cL_law 513 = .ok (.if_icmp .eq 378, 3) := by decide +kernel
theorem dL_law_516 : decode cL_law 516 = .ok (.iconst 0, 1) := by decide +kernel
theorem dL_law_517 : decode cL_law 517 = .ok (.ireturn, 1) := by decide +kernel
theorem dL_law_518 : decode cL_law 518 = .ok (.aload_n 1, 1) := by decide +kernel
theorem dL_law_519 : decode cL_law 519 = .ok (.aload_n 0, 1) := by decide +kernel
theorem dL_law_520 : decode cL_law 520 = .ok (.iload 4, 2) := by decide +kernel
theorem dL_law_522 : decode cL_law 522 = .ok (.iconst 1, 1) := by decide +kernel
theorem dL_law_523 : decode cL_law 523 = .ok (.iadd, 1) := by decide +kernel
theorem dL_law_524 : decode cL_law 524 = .ok (.iaload, 1) := by decide +kernel
theorem dL_law_525 : decode cL_law 525 = .ok (.invokevirtual 79, 3) := by decide +kernel
theorem dL_law_528 : decode cL_law 528 = .ok (.aload_n 2, 1) := by decide +kernel
theorem dL_law_529 : decode cL_law 529 = .ok (.aload_n 0, 1) := by decide +kernel
theorem dL_law_530 : decode cL_law 530 = .ok (.iload 4, 2) := by decide +kernel
theorem dL_law_532 : decode cL_law 532 = .ok (.iconst 1, 1) := by decide +kernel
theorem dL_law_533 : decode cL_law 533 = .ok (.iadd, 1) := by decide +kernel
theorem dL_law_534 : decode cL_law 534 = .ok (.iaload, 1) := by decide +kernel
theorem dL_law_535 : decode cL_law 535 = .ok (.invokevirtual 82, 3) := by decide +kernel
theorem dL_law_538 : decode cL_law 538 = .ok (.if_icmp .eq 353, 3) := by decide +kernel
theorem dL_law_541 : decode cL_law 541 = .ok (.iconst 0, 1) := by decide +kernel
theorem dL_law_542 : decode cL_law 542 = .ok (.ireturn, 1) := by decide +kernel
theorem dL_law_543 : decode cL_law 543 = .ok (.aload_n 1, 1) := by decide +kernel
theorem dL_law_544 : decode cL_law 544 = .ok (.aload_n 0, 1) := by decide +kernel
theorem dL_law_545 : decode cL_law 545 = .ok (.iload 4, 2) := by decide +kernel
theorem dL_law_547 : decode cL_law 547 = .ok (.iconst 1, 1) := by decide +kernel
theorem dL_law_548 : decode cL_law 548 = .ok (.iadd, 1) := by decide +kernel
theorem dL_law_549 : decode cL_law 549 = .ok (.iaload, 1) := by decide +kernel
theorem dL_law_550 : decode cL_law 550 = .ok (.invokevirtual 83, 3) := by decide +kernel
theorem dL_law_553 : decode cL_law 553 = .ok (.aload_n 2, 1) := by decide +kernel
theorem dL_law_554 : decode cL_law 554 = .ok (.aload_n 0, 1) := by decide +kernel
theorem dL_law_555 : decode cL_law 555 = .ok (.iload 4, 2) := by decide +kernel
theorem dL_law_557 : decode cL_law 557 = .ok (.iconst 1, 1) := by decide +kernel
theorem dL_law_558 : decode cL_law 558 = .ok (.iadd, 1) := by decide +kernel
theorem dL_law_559 : decode cL_law 559 = .ok (.iaload, 1) := by decide +kernel
theorem dL_law_560 : decode cL_law 560 = .ok (.invokevirtual 86, 3) := by decide +kernel
theorem dL_law_563 : decode cL_law 563 = .ok (.if_icmp .eq 328, 3) := by decide +kernel
theorem dL_law_566 : decode cL_law 566 = .ok (.iconst 0, 1) := by decide +kernel
theorem dL_law_567 : decode cL_law 567 = .ok (.ireturn, 1) := by decide +kernel
theorem dL_law_568 : decode cL_law 568 = .ok (.aload_n 1, 1) := by decide +kernel
theorem dL_law_569 : decode cL_law 569 = .ok (.aload_n 0, 1) := by decide +kernel
theorem dL_law_570 : decode cL_law 570 = .ok (.iload 4, 2) := by decide +kernel
theorem dL_law_572 : decode cL_law 572 = .ok (.iconst 1, 1) := by decide +kernel
theorem dL_law_573 : decode cL_law 573 = .ok (.iadd, 1) := by decide +kernel
theorem dL_law_574 : decode cL_law 574 = .ok (.iaload, 1) := by decide +kernel
theorem dL_law_575 : decode cL_law 575 = .ok (.aload_n 0, 1) := by decide +kernel
theorem dL_law_576 : decode cL_law 576 = .ok (.iload 4, 2) := by decide +kernel
theorem dL_law_578 : decode cL_law 578 = .ok (.iconst 2, 1) := by decide +kernel
theorem dL_law_579 : decode cL_law 579 = .ok (.iadd, 1) := by decide +kernel
theorem dL_law_580 : decode cL_law 580 = .ok (.iaload, 1) := by decide +kernel
theorem dL_law_581 : decode cL_law 581 = .ok (.aload_n 3, 1) := by decide +kernel
theorem dL_law_582 : decode cL_law 582 = .ok (.invokestatic 87, 3) := by decide +kernel
theorem dL_law_585 : decode cL_law 585 = .ok (.istore 5, 2) := by decide +kernel
theorem dL_law_587 : decode cL_law 587 = .ok (.aload_n 2, 1) := by decide +kernel
theorem dL_law_588 : decode cL_law 588 = .ok (.aload_n 0, 1) := by decide +kernel
theorem dL_law_589 : decode cL_law 589 = .ok (.iload 4, 2) := by decide +kernel
theorem dL_law_591 : decode cL_law 591 = .ok (.iconst 1, 1) := by decide +kernel
theorem dL_law_592 : decode cL_law 592 = .ok (.iadd, 1) := by decide +kernel
theorem dL_law_593 : decode cL_law 593 = .ok (.iaload, 1) := by decide +kernel
theorem dL_law_594 : decode cL_law 594 = .ok (.aload_n 0, 1) := by decide +kernel
theorem dL_law_595 : decode cL_law 595 = .ok (.iload 4, 2) := by decide +kernel
theorem dL_law_597 : decode cL_law 597 = .ok (.iconst 2, 1) := by decide +kernel
theorem dL_law_598 : decode cL_law 598 = .ok (.iadd, 1) := by decide +kernel
theorem dL_law_599 : decode cL_law 599 = .ok (.iaload, 1) := by decide +kernel
theorem dL_law_600 : decode cL_law 600 = .ok (.invokevirtual 92, 3) := by decide +kernel
theorem dL_law_603 : decode cL_law 603 = .ok (.istore 6, 2) := by decide +kernel
theorem dL_law_605 : decode cL_law 605 = .ok (.aload_n 2, 1) := by decide +kernel
theorem dL_law_606 : decode cL_law 606 = .ok (.invokevirtual 93, 3) := by decide +kernel
theorem dL_law_609 : decode cL_law 609 = .ok (.iload 5, 2) := by decide +kernel
theorem dL_law_611 : decode cL_law 611 = .ok (.if_icmp .eq 5, 3) := by decide +kernel
theorem dL_law_614 : decode cL_law 614 = .ok (.iconst 0, 1) := by decide +kernel
theorem dL_law_615 : decode cL_law 615 = .ok (.ireturn, 1) := by decide +kernel
theorem dL_law_616 : decode cL_law 616 = .ok (.iload 5, 2) := by decide +kernel
theorem dL_law_618 : decode cL_law 618 = .ok (.ifCond .ne 15, 3) := by decide +kernel
theorem dL_law_621 : decode cL_law 621 = .ok (.aload_n 3, 1) := by decide +kernel
theorem dL_law_622 : decode cL_law 622 = .ok (.iconst 0, 1) := by decide +kernel
theorem dL_law_623 : decode cL_law 623 = .ok (.laload, 1) := by decide +kernel
theorem dL_law_624 : decode cL_law 624 = .ok (.iload 6, 2) := by decide +kernel
theorem dL_law_626 : decode cL_law 626 = .ok (.i2l, 1) := by decide +kernel
theorem dL_law_627 : decode cL_law 627 = .ok (.lcmp, 1) := by decide +kernel
theorem dL_law_628 : decode cL_law 628 = .ok (.ifCond .eq 5, 3) := by decide +kernel
theorem dL_law_631 : decode cL_law 631 = .ok (.iconst 0, 1) := by decide +kernel
theorem dL_law_632 : decode cL_law 632 = .ok (.ireturn, 1) := by decide +kernel
theorem dL_law_633 : decode cL_law 633 = .ok (.goto 258, 3) := by decide +kernel
theorem dL_law_636 : decode cL_law 636 = .ok (.aload_n 1, 1) := by decide +kernel
theorem dL_law_637 : decode cL_law 637 = .ok (.aload_n 0, 1) := by decide +kernel
theorem dL_law_638 : decode cL_law 638 = .ok (.iload 4, 2) := by decide +kernel
theorem dL_law_640 : decode cL_law 640 = .ok (.iconst 1, 1) := by decide +kernel
theorem dL_law_641 : decode cL_law 641 = .ok (.iadd, 1) := by decide +kernel
theorem dL_law_642 : decode cL_law 642 = .ok (.iaload, 1) := by decide +kernel
theorem dL_law_643 : decode cL_law 643 = .ok (.invokevirtual 96, 3) := by decide +kernel
theorem dL_law_646 : decode cL_law 646 = .ok (.aload_n 2, 1) := by decide +kernel
theorem dL_law_647 : decode cL_law 647 = .ok (.aload_n 0, 1) := by decide +kernel
theorem dL_law_648 : decode cL_law 648 = .ok (.iload 4, 2) := by decide +kernel
theorem dL_law_650 : decode cL_law 650 = .ok (.iconst 1, 1) := by decide +kernel
theorem dL_law_651 : decode cL_law 651 = .ok (.iadd, 1) := by decide +kernel
theorem dL_law_652 : decode cL_law 652 = .ok (.iaload, 1) := by decide +kernel
theorem dL_law_653 : decode cL_law 653 = .ok (.invokevirtual 99, 3) := by decide +kernel
theorem dL_law_656 : decode cL_law 656 = .ok (.if_icmp .eq 235, 3) := by decide +kernel
theorem dL_law_659 : decode cL_law 659 = .ok (.iconst 0, 1) := by decide +kernel
theorem dL_law_660 : decode cL_law 660 = .ok (.ireturn, 1) := by decide +kernel
theorem dL_law_661 : decode cL_law 661 = .ok (.aload_n 1, 1) := by decide +kernel
theorem dL_law_662 : decode cL_law 662 = .ok (.aload_n 0, 1) := by decide +kernel
theorem dL_law_663 : decode cL_law 663 = .ok (.iload 4, 2) := by decide +kernel
theorem dL_law_665 : decode cL_law 665 = .ok (.iconst 1, 1) := by decide +kernel
theorem dL_law_666 : decode cL_law 666 = .ok (.iadd, 1) := by decide +kernel
theorem dL_law_667 : decode cL_law 667 = .ok (.iaload, 1) := by decide +kernel
theorem dL_law_668 : decode cL_law 668 = .ok (.invokevirtual 100, 3) := by decide +kernel
theorem dL_law_671 : decode cL_law 671 = .ok (.aload_n 2, 1) := by decide +kernel
theorem dL_law_672 : decode cL_law 672 = .ok (.aload_n 0, 1) := by decide +kernel
theorem dL_law_673 : decode cL_law 673 = .ok (.iload 4, 2) := by decide +kernel
theorem dL_law_675 : decode cL_law 675 = .ok (.iconst 1, 1) := by decide +kernel
theorem dL_law_676 : decode cL_law 676 = .ok (.iadd, 1) := by decide +kernel
theorem dL_law_677 : decode cL_law 677 = .ok (.iaload, 1) := by decide +kernel
theorem dL_law_678 : decode cL_law 678 = .ok (.invokevirtual 103, 3) := by decide +kernel
theorem dL_law_681 : decode cL_law 681 = .ok (.if_icmp .eq 210, 3) := by decide +kernel
theorem dL_law_684 : decode cL_law 684 = .ok (.iconst 0, 1) := by decide +kernel
theorem dL_law_685 : decode cL_law 685 = .ok (.ireturn, 1) := by decide +kernel
theorem dL_law_686 : decode cL_law 686 = .ok (.aload_n 1, 1) := by decide +kernel
theorem dL_law_687 : decode cL_law 687 = .ok (.invokevirtual 104, 3) := by decide +kernel
theorem dL_law_690 : decode cL_law 690 = .ok (.aload_n 2, 1) := by decide +kernel
theorem dL_law_691 : decode cL_law 691 = .ok (.invokevirtual 107, 3) := by decide +kernel
theorem dL_law_694 : decode cL_law 694 = .ok (.if_icmp .eq 197, 3) := by decide +kernel
theorem dL_law_697 : decode cL_law 697 = .ok (.iconst 0, 1) := by decide +kernel
theorem dL_law_698 : decode cL_law 698 = .ok (.ireturn, 1) := by decide +kernel
theorem dL_law_699 : decode cL_law 699 = .ok (.aload_n 1, 1) := by decide +kernel
theorem dL_law_700 : decode cL_law 700 = .ok (.aload_n 0, 1) := by decide +kernel
theorem dL_law_701 : decode cL_law 701 = .ok (.iload 4, 2) := by decide +kernel
theorem dL_law_703 : decode cL_law 703 = .ok (.iconst 1, 1) := by decide +kernel
theorem dL_law_704 : decode cL_law 704 = .ok (.iadd, 1) := by decide +kernel
theorem dL_law_705 : decode cL_law 705 = .ok (.iaload, 1) := by decide +kernel
theorem dL_law_706 : decode cL_law 706 = .ok (.aload_n 0, 1) := by decide +kernel
theorem dL_law_707 : decode cL_law 707 = .ok (.iload 4, 2) := by decide +kernel
theorem dL_law_709 : decode cL_law 709 = .ok (.iconst 2, 1) := by decide +kernel
theorem dL_law_710 : decode cL_law 710 = .ok (.iadd, 1) := by decide +kernel
theorem dL_law_711 : decode cL_law 711 = .ok (.iaload, 1) := by decide +kernel
theorem dL_law_712 : decode cL_law 712 = .ok (.invokevirtual 108, 3) := by decide +kernel
theorem dL_law_715 : decode cL_law 715 = .ok (.aload_n 2, 1) := by decide +kernel
theorem dL_law_716 : decode cL_law 716 = .ok (.aload_n 0, 1) := by decide +kernel
theorem dL_law_717 : decode cL_law 717 = .ok (.iload 4, 2) := by decide +kernel
theorem dL_law_719 : decode cL_law 719 = .ok (.iconst 1, 1) := by decide +kernel
theorem dL_law_720 : decode cL_law 720 = .ok (.iadd, 1) := by decide +kernel
theorem dL_law_721 : decode cL_law 721 = .ok (.iaload, 1) := by decide +kernel
theorem dL_law_722 : decode cL_law 722 = .ok (.aload_n 0, 1) := by decide +kernel
theorem dL_law_723 : decode cL_law 723 = .ok (.iload 4, 2) := by decide +kernel
theorem dL_law_725 : decode cL_law 725 = .ok (.iconst 2, 1) := by decide +kernel
theorem dL_law_726 : decode cL_law 726 = .ok (.iadd, 1) := by decide +kernel
theorem dL_law_727 : decode cL_law 727 = .ok (.iaload, 1) := by decide +kernel
theorem dL_law_728 : decode cL_law 728 = .ok (.invokevirtual 111, 3) := by decide +kernel
theorem dL_law_731 : decode cL_law 731 = .ok (.if_icmp .eq 160, 3) := by decide +kernel
theorem dL_law_734 : decode cL_law 734 = .ok (.iconst 0, 1) := by decide +kernel
theorem dL_law_735 : decode cL_law 735 = .ok (.ireturn, 1) := by decide +kernel
theorem dL_law_736 : decode cL_law 736 = .ok (.aload_n 1, 1) := by decide +kernel
theorem dL_law_737 : decode cL_law 737 = .ok (.aload_n 0, 1) := by decide +kernel
theorem dL_law_738 : decode cL_law 738 = .ok (.iload 4, 2) := by decide +kernel
theorem dL_law_740 : decode cL_law 740 = .ok (.iconst 1, 1) := by decide +kernel
theorem dL_law_741 : decode cL_law 741 = .ok (.iadd, 1) := by decide +kernel
theorem dL_law_742 : decode cL_law 742 = .ok (.iaload, 1) := by decide +kernel
theorem dL_law_743 : decode cL_law 743 = .ok (.invokevirtual 112, 3) := by decide +kernel
theorem dL_law_746 : decode cL_law 746 = .ok (.aload_n 2, 1) := by decide +kernel
theorem dL_law_747 : decode cL_law 747 = .ok (.aload_n 0, 1) := by decide +kernel
theorem dL_law_748 : decode cL_law 748 = .ok (.iload 4, 2) := by decide +kernel
theorem dL_law_750 : decode cL_law 750 = .ok (.iconst 1, 1) := by decide +kernel
theorem dL_law_751 : decode cL_law 751 = .ok (.iadd, 1) := by decide +kernel
theorem dL_law_752 : decode cL_law 752 = .ok (.iaload, 1) := by decide +kernel
theorem dL_law_753 : decode cL_law 753 = .ok (.invokevirtual 115, 3) := by decide +kernel
theorem dL_law_756 : decode cL_law 756 = .ok (.if_icmp .eq 135, 3) := by decide +kernel
theorem dL_law_759 : decode cL_law 759 = .ok (.iconst 0, 1) := by decide +kernel
theorem dL_law_760 : decode cL_law 760 = .ok (.ireturn, 1) := by decide +kernel
theorem dL_law_761 : decode cL_law 761 = .ok (.aload_n 1, 1) := by decide +kernel
theorem dL_law_762 : decode cL_law 762 = .ok (.aload_n 0, 1) := by decide +kernel
theorem dL_law_763 : decode cL_law 763 = .ok (.iload 4, 2) := by decide +kernel
theorem dL_law_765 : decode cL_law 765 = .ok (.iconst 1, 1) := by decide +kernel
theorem dL_law_766 : decode cL_law 766 = .ok (.iadd, 1) := by decide +kernel
theorem dL_law_767 : decode cL_law 767 = .ok (.iaload, 1) := by decide +kernel
theorem dL_law_768 : decode cL_law 768 = .ok (.aload_n 0, 1) := by decide +kernel
theorem dL_law_769 : decode cL_law 769 = .ok (.iload 4, 2) := by decide +kernel
theorem dL_law_771 : decode cL_law 771 = .ok (.iconst 2, 1) := by decide +kernel
theorem dL_law_772 : decode cL_law 772 = .ok (.iadd, 1) := by decide +kernel
theorem dL_law_773 : decode cL_law 773 = .ok (.iaload, 1) := by decide +kernel
theorem dL_law_774 : decode cL_law 774 = .ok (.invokevirtual 116, 3) := by decide +kernel
theorem dL_law_777 : decode cL_law 777 = .ok (.aload_n 2, 1) := by decide +kernel
theorem dL_law_778 : decode cL_law 778 = .ok (.aload_n 0, 1) := by decide +kernel
theorem dL_law_779 : decode cL_law 779 = .ok (.iload 4, 2) := by decide +kernel
theorem dL_law_781 : decode cL_law 781 = .ok (.iconst 1, 1) := by decide +kernel
theorem dL_law_782 : decode cL_law 782 = .ok (.iadd, 1) := by decide +kernel
theorem dL_law_783 : decode cL_law 783 = .ok (.iaload, 1) := by decide +kernel
theorem dL_law_784 : decode cL_law 784 = .ok (.aload_n 0, 1) := by decide +kernel
theorem dL_law_785 : decode cL_law 785 = .ok (.iload 4, 2) := by decide +kernel
theorem dL_law_787 : decode cL_law 787 = .ok (.iconst 2, 1) := by decide +kernel
theorem dL_law_788 : decode cL_law 788 = .ok (.iadd, 1) := by decide +kernel
theorem dL_law_789 : decode cL_law 789 = .ok (.iaload, 1) := by decide +kernel
theorem dL_law_790 : decode cL_law 790 = .ok (.invokevirtual 119, 3) := by decide +kernel
theorem dL_law_793 : decode cL_law 793 = .ok (.if_icmp .eq 98, 3) := by decide +kernel
theorem dL_law_796 : decode cL_law 796 = .ok (.iconst 0, 1) := by decide +kernel
theorem dL_law_797 : decode cL_law 797 = .ok (.ireturn, 1) := by decide +kernel
theorem dL_law_798 : decode cL_law 798 = .ok (.aload_n 1, 1) := by decide +kernel
theorem dL_law_799 : decode cL_law 799 = .ok (.invokevirtual 120, 3) := by decide +kernel
theorem dL_law_802 : decode cL_law 802 = .ok (.aload_n 2, 1) := by decide +kernel
theorem dL_law_803 : decode cL_law 803 = .ok (.invokevirtual 123, 3) := by decide +kernel
theorem dL_law_806 : decode cL_law 806 = .ok (.if_icmp .eq 85, 3) := by decide +kernel
theorem dL_law_809 : decode cL_law 809 = .ok (.iconst 0, 1) := by decide +kernel
theorem dL_law_810 : decode cL_law 810 = .ok (.ireturn, 1) := by decide +kernel
theorem dL_law_811 : decode cL_law 811 = .ok (.aload_n 1, 1) := by decide +kernel
theorem dL_law_812 : decode cL_law 812 = .ok (.invokevirtual 124, 3) := by decide +kernel
theorem dL_law_815 : decode cL_law 815 = .ok (.aload_n 2, 1) := by decide +kernel
theorem dL_law_816 : decode cL_law 816 = .ok (.invokevirtual 127, 3) := by decide +kernel
theorem dL_law_819 : decode cL_law 819 = .ok (.if_icmp .eq 72, 3) := by decide +kernel
theorem dL_law_822 : decode cL_law 822 = .ok (.iconst 0, 1) := by decide +kernel
theorem dL_law_823 : decode cL_law 823 = .ok (.ireturn, 1) := by decide +kernel
theorem dL_law_824 : decode cL_law 824 = .ok (.aload_n 1, 1) := by decide +kernel
theorem dL_law_825 : decode cL_law 825 = .ok (.invokevirtual 128, 3) := by decide +kernel
theorem dL_law_828 : decode cL_law 828 = .ok (.aload_n 2, 1) := by decide +kernel
theorem dL_law_829 : decode cL_law 829 = .ok (.invokevirtual 131, 3) := by decide +kernel
theorem dL_law_832 : decode cL_law 832 = .ok (.if_icmp .eq 59, 3) := by decide +kernel
theorem dL_law_835 : decode cL_law 835 = .ok (.iconst 0, 1) := by decide +kernel
theorem dL_law_836 : decode cL_law 836 = .ok (.ireturn, 1) := by decide +kernel
theorem dL_law_837 : decode cL_law 837 = .ok (.aload_n 1, 1) := by decide +kernel
theorem dL_law_838 : decode cL_law 838 = .ok (.invokevirtual 132, 3) := by decide +kernel
theorem dL_law_841 : decode cL_law 841 = .ok (.aload_n 2, 1) := by decide +kernel
theorem dL_law_842 : decode cL_law 842 = .ok (.invokevirtual 135, 3) := by decide +kernel
theorem dL_law_845 : decode cL_law 845 = .ok (.if_icmp .eq 46, 3) := by decide +kernel
theorem dL_law_848 : decode cL_law 848 = .ok (.iconst 0, 1) := by decide +kernel
theorem dL_law_849 : decode cL_law 849 = .ok (.ireturn, 1) := by decide +kernel
theorem dL_law_850 : decode cL_law 850 = .ok (.aload_n 1, 1) := by decide +kernel
theorem dL_law_851 : decode cL_law 851 = .ok (.aload_n 0, 1) := by decide +kernel
theorem dL_law_852 : decode cL_law 852 = .ok (.iload 4, 2) := by decide +kernel
theorem dL_law_854 : decode cL_law 854 = .ok (.iconst 1, 1) := by decide +kernel
theorem dL_law_855 : decode cL_law 855 = .ok (.iadd, 1) := by decide +kernel
theorem dL_law_856 : decode cL_law 856 = .ok (.iaload, 1) := by decide +kernel
theorem dL_law_857 : decode cL_law 857 = .ok (.ifCond .eq 7, 3) := by decide +kernel
theorem dL_law_860 : decode cL_law 860 = .ok (.iconst 1, 1) := by decide +kernel
theorem dL_law_861 : decode cL_law 861 = .ok (.goto 4, 3) := by decide +kernel
theorem dL_law_864 : decode cL_law 864 = .ok (.iconst 0, 1) := by decide +kernel
theorem dL_law_865 : decode cL_law 865 = .ok (.invokevirtual 136, 3) := by decide +kernel
theorem dL_law_868 : decode cL_law 868 = .ok (.aload_n 2, 1) := by decide +kernel
theorem dL_law_869 : decode cL_law 869 = .ok (.aload_n 0, 1) := by decide +kernel
theorem dL_law_870 : decode cL_law 870 = .ok (.iload 4, 2) := by decide +kernel
theorem dL_law_872 : decode cL_law 872 = .ok (.iconst 1, 1) := by decide +kernel
theorem dL_law_873 : decode cL_law 873 = .ok (.iadd, 1) := by decide +kernel
theorem dL_law_874 : decode cL_law 874 = .ok (.iaload, 1) := by decide +kernel
theorem dL_law_875 : decode cL_law 875 = .ok (.ifCond .eq 7, 3) := by decide +kernel
theorem dL_law_878 : decode cL_law 878 = .ok (.iconst 1, 1) := by decide +kernel
theorem dL_law_879 : decode cL_law 879 = .ok (.goto 4, 3) := by decide +kernel
theorem dL_law_882 : decode cL_law 882 = .ok (.iconst 0, 1) := by decide +kernel
theorem dL_law_883 : decode cL_law 883 = .ok (.invokevirtual 140, 3) := by decide +kernel
theorem dL_law_886 : decode cL_law 886 = .ok (.if_icmp .eq 5, 3) := by decide +kernel
theorem dL_law_889 : decode cL_law 889 = .ok (.iconst 0, 1) := by decide +kernel
theorem dL_law_890 : decode cL_law 890 = .ok (.ireturn, 1) := by decide +kernel
theorem dL_law_891 : decode cL_law 891 = .ok (.iinc 4 6, 3) := by decide +kernel
theorem dL_law_894 : decode cL_law 894 = .ok (.goto (-871), 3) := by decide +kernel
theorem dL_law_897 : decode cL_law 897 = .ok (.iconst 1, 1) := by decide +kernel
theorem dL_law_898 : decode cL_law 898 = .ok (.ireturn, 1) := by decide +kernel
