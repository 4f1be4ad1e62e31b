theorem dX0_init_0 : decode cX0_init 0 = .ok (.aload_n 0, 1) := by decide +kernel
theorem dX0_init_1 : decode cX0_init 1 = .ok (.invokespecial 3, 3) := by decide +kernel
theorem dX0_init_4 : decode cX0_init 4 = .ok (.aload_n 0, 1) := by decide +kernel
theorem dX0_init_5 : decode cX0_init 5 = .ok (.sipush 400, 3) := by decide +kernel
theorem dX0_init_8 : decode cX0_init 8 = .ok (.newarray .long, 2) := by decide +kernel
theorem dX0_init_10 : decode cX0_init 10 = .ok (.putfield 9, 3) := by decide +kernel
theorem dX0_init_13 : decode cX0_init 13 = .ok (.aload_n 0, 1) := by decide +kernel
theorem dX0_init_14 : decode cX0_init 14 = .ok (.iconst 0, 1) := by decide +kernel
theorem dX0_init_15 : decode cX0_init 15 = .ok (.putfield 15, 3) := by decide +kernel
theorem dX0_init_18 : decode cX0_init 18 = .ok (.aload_n 0, 1) := by decide +kernel
theorem dX0_init_19 : decode cX0_init 19 = .ok (.iconst 0, 1) := by decide +kernel
theorem dX0_init_20 : decode cX0_init 20 = .ok (.putfield 19, 3) := by decide +kernel
theorem dX0_init_23 : decode cX0_init 23 = .ok (.aload_n 0, 1) := by decide +kernel
theorem dX0_init_24 : decode cX0_init 24 = .ok (.lconst 0, 1) := by decide +kernel
theorem dX0_init_25 : decode cX0_init 25 = .ok (.putfield 22, 3) := by decide +kernel
theorem dX0_init_28 : decode cX0_init 28 = .ok (.aload_n 0, 1) := by decide +kernel
theorem dX0_init_29 : decode cX0_init 29 = .ok (.aload_n 1, 1) := by decide +kernel
theorem dX0_init_30 : decode cX0_init 30 = .ok (.putfield 26, 3) := by decide +kernel
theorem dX0_init_33 : decode cX0_init 33 = .ok (.aload_n 0, 1) := by decide +kernel
theorem dX0_init_34 : decode cX0_init 34 = .ok (.aload_n 2, 1) := by decide +kernel
theorem dX0_init_35 : decode cX0_init 35 = .ok (.putfield 30, 3) := by decide +kernel
theorem dX0_init_38 : decode cX0_init 38 = .ok (.return_, 1) := by decide +kernel
theorem dX0_goRound_0 : decode cX0_goRound 0 = .ok (.aload_n 0, 1) := by decide +kernel
theorem dX0_goRound_1 : decode cX0_goRound 1 = .ok (.getfield 30, 3) := by decide +kernel
theorem dX0_goRound_4 : decode cX0_goRound 4 = .ok (.invokevirtual 34, 3) := by decide +kernel
theorem dX0_goRound_7 : decode cX0_goRound 7 = .ok (.aload_n 0, 1) := by decide +kernel
theorem dX0_goRound_8 : decode cX0_goRound 8 = .ok (.getfield 30, 3) := by decide +kernel
theorem dX0_goRound_11 : decode cX0_goRound 11 = .ok (.aload_n 1, 1) := by decide +kernel
theorem dX0_goRound_12 : decode cX0_goRound 12 = .ok (.invokevirtual 39, 3) := by decide +kernel
theorem dX0_goRound_15 : decode cX0_goRound 15 = .ok (.pop, 1) := by decide +kernel
theorem dX0_goRound_16 : decode cX0_goRound 16 = .ok (.lconst 0, 1) := by decide +kernel
theorem dX0_goRound_17 : decode cX0_goRound 17 = .ok (.lstore 5, 2) := by decide +kernel
theorem dX0_goRound_19 : decode cX0_goRound 19 = .ok (.iconst 0, 1) := by decide +kernel
theorem dX0_goRound_20 : decode cX0_goRound 20 = .ok (.istore 7, 2) := by decide +kernel
theorem dX0_goRound_22 : decode cX0_goRound 22 = .ok (.iload 7, 2) := by decide +kernel
theorem dX0_goRound_24 : decode cX0_goRound 24 = .ok (.iload 4, 2) := by decide +kernel
theorem dX0_goRound_26 : decode cX0_goRound 26 = .ok (.if_icmp .ge 112, 3) := by decide +kernel
theorem dX0_goRound_29 : decode cX0_goRound 29 = .ok (.iload 7, 2) := by decide +kernel
theorem dX0_goRound_31 : decode cX0_goRound 31 = .ok (.sipush 400, 3) := by decide +kernel
theorem dX0_goRound_34 : decode cX0_goRound 34 = .ok (.if_icmp .ge 104, 3) := by decide +kernel
theorem dX0_goRound_37 : decode cX0_goRound 37 = .ok (.aload_n 0, 1) := by decide +kernel
theorem dX0_goRound_38 : decode cX0_goRound 38 = .ok (.getfield 30, 3) := by decide +kernel
theorem dX0_goRound_41 : decode cX0_goRound 41 = .ok (.invokevirtual 43, 3) := by decide +kernel
theorem dX0_goRound_44 : decode cX0_goRound 44 = .ok (.aload_n 0, 1) := by decide +kernel
theorem dX0_goRound_45 : decode cX0_goRound 45 = .ok (.getfield 9, 3) := by decide +kernel
theorem dX0_goRound_48 : decode cX0_goRound 48 = .ok (.iload 7, 2) := by decide +kernel
theorem dX0_goRound_50 : decode cX0_goRound 50 = .ok (.lload 5, 2) := by decide +kernel
theorem dX0_goRound_52 : decode cX0_goRound 52 = .ok (.lastore, 1) := by decide +kernel
theorem dX0_goRound_53 : decode cX0_goRound 53 = .ok (.aload_n 1, 1) := by decide +kernel
theorem dX0_goRound_54 : decode cX0_goRound 54 = .ok (.lload_n 2, 1) := by decide +kernel
theorem dX0_goRound_55 : decode cX0_goRound 55 = .ok (.invokevirtual 46, 3) := by decide +kernel
theorem dX0_goRound_58 : decode cX0_goRound 58 = .ok (.ifCond .ne 6, 3) := by decide +kernel
theorem dX0_goRound_61 : decode cX0_goRound 61 = .ok (.bipush (-6), 2) := by decide +kernel
theorem dX0_goRound_63 : decode cX0_goRound 63 = .ok (.ireturn, 1) := by decide +kernel
theorem dX0_goRound_64 : decode cX0_goRound 64 = .ok (.lload 5, 2) := by decide +kernel
theorem dX0_goRound_66 : decode cX0_goRound 66 = .ok (.aload_n 0, 1) := by decide +kernel
theorem dX0_goRound_67 : decode cX0_goRound 67 = .ok (.getfield 26, 3) := by decide +kernel
theorem dX0_goRound_70 : decode cX0_goRound 70 = .ok (.getfield 52, 3) := by decide +kernel
theorem dX0_goRound_73 : decode cX0_goRound 73 = .ok (.aload_n 1, 1) := by decide +kernel
theorem dX0_goRound_74 : decode cX0_goRound 74 = .ok (.getfield 57, 3) := by decide +kernel
theorem dX0_goRound_77 : decode cX0_goRound 77 = .ok (.laload, 1) := by decide +kernel
theorem dX0_goRound_78 : decode cX0_goRound 78 = .ok (.ladd, 1) := by decide +kernel
theorem dX0_goRound_79 : decode cX0_goRound 79 = .ok (.lstore 5, 2) := by decide +kernel
theorem dX0_goRound_81 : decode cX0_goRound 81 = .ok (.aload_n 0, 1) := by decide +kernel
theorem dX0_goRound_82 : decode cX0_goRound 82 = .ok (.getfield 30, 3) := by decide +kernel
theorem dX0_goRound_85 : decode cX0_goRound 85 = .ok (.aload_n 1, 1) := by decide +kernel
theorem dX0_goRound_86 : decode cX0_goRound 86 = .ok (.invokevirtual 39, 3) := by decide +kernel
theorem dX0_goRound_89 : decode cX0_goRound 89 = .ok (.istore 8, 2) := by decide +kernel
theorem dX0_goRound_91 : decode cX0_goRound 91 = .ok (.iload 8, 2) := by decide +kernel
theorem dX0_goRound_93 : decode cX0_goRound 93 = .ok (.ifCond .lt 39, 3) := by decide +kernel
theorem dX0_goRound_96 : decode cX0_goRound 96 = .ok (.aload_n 0, 1) := by decide +kernel
theorem dX0_goRound_97 : decode cX0_goRound 97 = .ok (.iload 8, 2) := by decide +kernel
theorem dX0_goRound_99 : decode cX0_goRound 99 = .ok (.putfield 15, 3) := by decide +kernel
theorem dX0_goRound_102 : decode cX0_goRound 102 = .ok (.aload_n 0, 1) := by decide +kernel
theorem dX0_goRound_103 : decode cX0_goRound 103 = .ok (.iload 7, 2) := by decide +kernel
theorem dX0_goRound_105 : decode cX0_goRound 105 = .ok (.iconst 1, 1) := by decide +kernel
theorem dX0_goRound_106 : decode cX0_goRound 106 = .ok (.iadd, 1) := by decide +kernel
theorem dX0_goRound_107 : decode cX0_goRound 107 = .ok (.iload 8, 2) := by decide +kernel
theorem dX0_goRound_109 : decode cX0_goRound 109 = .ok (.isub, 1) := by decide +kernel
theorem dX0_goRound_110 : decode cX0_goRound 110 = .ok (.putfield 19, 3) := by decide +kernel
theorem dX0_goRound_113 : decode cX0_goRound 113 = .ok (.aload_n 0, 1) := by decide +kernel
theorem dX0_goRound_114 : decode cX0_goRound 114 = .ok (.lload 5, 2) := by decide +kernel
theorem dX0_goRound_116 : decode cX0_goRound 116 = .ok (.aload_n 0, 1) := by decide +kernel
theorem dX0_goRound_117 : decode cX0_goRound 117 = .ok (.getfield 9, 3) := by decide +kernel
theorem dX0_goRound_120 : decode cX0_goRound 120 = .ok (.iload 8, 2) := by decide +kernel
theorem dX0_goRound_122 : decode cX0_goRound 122 = .ok (.laload, 1) := by decide +kernel
theorem dX0_goRound_123 : decode cX0_goRound 123 = .ok (.lsub, 1) := by decide +kernel
theorem dX0_goRound_124 : decode cX0_goRound 124 = .ok (.putfield 22, 3) := by decide +kernel
theorem dX0_goRound_127 : decode cX0_goRound 127 = .ok (.aload_n 0, 1) := by decide +kernel
theorem dX0_goRound_128 : decode cX0_goRound 128 = .ok (.getfield 15, 3) := by decide +kernel
theorem dX0_goRound_131 : decode cX0_goRound 131 = .ok (.ireturn, 1) := by decide +kernel
theorem dX0_goRound_132 : decode cX0_goRound 132 = .ok (.iinc 7 1, 3) := by decide +kernel
theorem dX0_goRound_135 : decode cX0_goRound 135 = .ok (.goto (-113), 3) := by decide +kernel
theorem dX0_goRound_138 : decode cX0_goRound 138 = .ok (.bipush (-5), 2) := by decide +kernel
theorem dX0_goRound_140 : decode cX0_goRound 140 = .ok (.ireturn, 1) := by decide +kernel
theorem dX1_init_0 : decode cX1_init 0 = .ok (.aload_n 0, 1) := by decide +kernel
theorem dX1_init_1 : decode cX1_init 1 = .ok (.invokespecial 3, 3) := by decide +kernel
theorem dX1_init_4 : decode cX1_init 4 = .ok (.aload_n 0, 1) := by decide +kernel
theorem dX1_init_5 : decode cX1_init 5 = .ok (.sipush 2100, 3) := by decide +kernel
theorem dX1_init_8 : decode cX1_init 8 = .ok (.newarray .long, 2) := by decide +kernel
theorem dX1_init_10 : decode cX1_init 10 = .ok (.putfield 9, 3) := by decide +kernel
theorem dX1_init_13 : decode cX1_init 13 = .ok (.aload_n 0, 1) := by decide +kernel
theorem dX1_init_14 : decode cX1_init 14 = .ok (.sipush 300, 3) := by decide +kernel
theorem dX1_init_17 : decode cX1_init 17 = .ok (.newarray .long, 2) := by decide +kernel
theorem dX1_init_19 : decode cX1_init 19 = .ok (.putfield 15, 3) := by decide +kernel
theorem dX1_init_22 : decode cX1_init 22 = .ok (.aload_n 0, 1) := by decide +kernel
theorem dX1_init_23 : decode cX1_init 23 = .ok (.iconst 0, 1) := by decide +kernel
theorem dX1_init_24 : decode cX1_init 24 = .ok (.putfield 18, 3) := by decide +kernel
theorem dX1_init_27 : decode cX1_init 27 = .ok (.return_, 1) := by decide +kernel
theorem dX1_hasStep_0 : decode cX1_hasStep 0 = .ok (.iload_n 1, 1) := by decide +kernel
theorem dX1_hasStep_1 : decode cX1_hasStep 1 = .ok (.ifCond .lt 15, 3) := by decide +kernel
theorem dX1_hasStep_4 : decode cX1_hasStep 4 = .ok (.iload_n 1, 1) := by decide +kernel
theorem dX1_hasStep_5 : decode cX1_hasStep 5 = .ok (.aload_n 0, 1) := by decide +kernel
theorem dX1_hasStep_6 : decode cX1_hasStep 6 = .ok (.getfield 18, 3) := by decide +kernel
theorem dX1_hasStep_9 : decode cX1_hasStep 9 = .ok (.if_icmp .ge 7, 3) := by decide +kernel
theorem dX1_hasStep_12 : decode cX1_hasStep 12 = .ok (.iconst 1, 1) := by decide +kernel
theorem dX1_hasStep_13 : decode cX1_hasStep 13 = .ok (.goto 4, 3) := by decide +kernel
theorem dX1_hasStep_16 : decode cX1_hasStep 16 = .ok (.iconst 0, 1) := by decide +kernel
theorem dX1_hasStep_17 : decode cX1_hasStep 17 = .ok (.ireturn, 1) := by decide +kernel
theorem dX1_levelOf_0 : decode cX1_levelOf 0 = .ok (.aload_n 0, 1) := by decide +kernel
theorem dX1_levelOf_1 : decode cX1_levelOf 1 = .ok (.getfield 9, 3) := by decide +kernel
theorem dX1_levelOf_4 : decode cX1_levelOf 4 = .ok (.iload_n 1, 1) := by decide +kernel
theorem dX1_levelOf_5 : decode cX1_levelOf 5 = .ok (.bipush 7, 2) := by decide +kernel
theorem dX1_levelOf_7 : decode cX1_levelOf 7 = .ok (.imul, 1) := by decide +kernel
theorem dX1_levelOf_8 : decode cX1_levelOf 8 = .ok (.iconst 1, 1) := by decide +kernel
theorem dX1_levelOf_9 : decode cX1_levelOf 9 = .ok (.iadd, 1) := by decide +kernel
theorem dX1_levelOf_10 : decode cX1_levelOf 10 = .ok (.laload, 1) := by decide +kernel
theorem dX1_levelOf_11 : decode cX1_levelOf 11 = .ok (.lreturn, 1) := by decide +kernel
theorem dX1_latestMade_0 : decode cX1_latestMade 0 = .ok (.aload_n 0, 1) := by decide +kernel
theorem dX1_latestMade_1 : decode cX1_latestMade 1 = .ok (.getfield 18, 3) := by decide +kernel
theorem dX1_latestMade_4 : decode cX1_latestMade 4 = .ok (.ifCond .le 17, 3) := by decide +kernel
theorem dX1_latestMade_7 : decode cX1_latestMade 7 = .ok (.aload_n 0, 1) := by decide +kernel
theorem dX1_latestMade_8 : decode cX1_latestMade 8 = .ok (.getfield 15, 3) := by decide +kernel
theorem dX1_latestMade_11 : decode cX1_latestMade 11 = .ok (.aload_n 0, 1) := by decide +kernel
theorem dX1_latestMade_12 : decode cX1_latestMade 12 = .ok (.getfield 18, 3) := by decide +kernel
theorem dX1_latestMade_15 : decode cX1_latestMade 15 = .ok (.iconst 1, 1) := by decide +kernel
theorem dX1_latestMade_16 : decode cX1_latestMade 16 = .ok (.isub, 1) := by decide +kernel
theorem dX1_latestMade_17 : decode cX1_latestMade 17 = .ok (.laload, 1) := by decide +kernel
theorem dX1_latestMade_18 : decode cX1_latestMade 18 = .ok (.goto 4, 3) := by decide +kernel
theorem dX1_latestMade_21 : decode cX1_latestMade 21 = .ok (.lconst 0, 1) := by decide +kernel
theorem dX1_latestMade_22 : decode cX1_latestMade 22 = .ok (.lreturn, 1) := by decide +kernel
theorem dX1_write_0 : decode cX1_write 0 = .ok (.aload_n 0, 1) := by decide +kernel
theorem dX1_write_1 : decode cX1_write 1 = .ok (.getfield 15, 3) := by decide +kernel
theorem dX1_write_4 : decode cX1_write 4 = .ok (.aload_n 0, 1) := by decide +kernel
theorem dX1_write_5 : decode cX1_write 5 = .ok (.getfield 18, 3) := by decide +kernel
theorem dX1_write_8 : decode cX1_write 8 = .ok (.lload_n 1, 1) := by decide +kernel
theorem dX1_write_9 : decode cX1_write 9 = .ok (.lastore, 1) := by decide +kernel
theorem dX1_write_10 : decode cX1_write 10 = .ok (.aload_n 0, 1) := by decide +kernel
theorem dX1_write_11 : decode cX1_write 11 = .ok (.getfield 18, 3) := by decide +kernel
theorem dX1_write_14 : decode cX1_write 14 = .ok (.bipush 7, 2) := by decide +kernel
theorem dX1_write_16 : decode cX1_write 16 = .ok (.imul, 1) := by decide +kernel
theorem dX1_write_17 : decode cX1_write 17 = .ok (.istore 4, 2) := by decide +kernel
theorem dX1_write_19 : decode cX1_write 19 = .ok (.aload_n 0, 1) := by decide +kernel
theorem dX1_write_20 : decode cX1_write 20 = .ok (.getfield 9, 3) := by decide +kernel
theorem dX1_write_23 : decode cX1_write 23 = .ok (.iload 4, 2) := by decide +kernel
theorem dX1_write_25 : decode cX1_write 25 = .ok (.iconst 0, 1) := by decide +kernel
theorem dX1_write_26 : decode cX1_write 26 = .ok (.iadd, 1) := by decide +kernel
theorem dX1_write_27 : decode cX1_write 27 = .ok (.lload_n 1, 1) := by decide +kernel
theorem dX1_write_28 : decode cX1_write 28 = .ok (.lastore, 1) := by decide +kernel
theorem dX1_write_29 : decode cX1_write 29 = .ok (.aload_n 0, 1) := by decide +kernel
theorem dX1_write_30 : decode cX1_write 30 = .ok (.getfield 9, 3) := by decide +kernel
theorem dX1_write_33 : decode cX1_write 33 = .ok (.iload 4, 2) := by decide +kernel
theorem dX1_write_35 : decode cX1_write 35 = .ok (.iconst 1, 1) := by decide +kernel
theorem dX1_write_36 : decode cX1_write 36 = .ok (.iadd, 1) := by decide +kernel
theorem dX1_write_37 : decode cX1_write 37 = .ok (.aload_n 3, 1) := by decide +kernel
theorem dX1_write_38 : decode cX1_write 38 = .ok (.getfield 22, 3) := by decide +kernel
theorem dX1_write_41 : decode cX1_write 41 = .ok (.getfield 28, 3) := by decide +kernel
theorem dX1_write_44 : decode cX1_write 44 = .ok (.aload_n 3, 1) := by decide +kernel
theorem dX1_write_45 : decode cX1_write 45 = .ok (.getfield 33, 3) := by decide +kernel
theorem dX1_write_48 : decode cX1_write 48 = .ok (.laload, 1) := by decide +kernel
theorem dX1_write_49 : decode cX1_write 49 = .ok (.lastore, 1) := by decide +kernel
theorem dX1_write_50 : decode cX1_write 50 = .ok (.iconst 0, 1) := by decide +kernel
theorem dX1_write_51 : decode cX1_write 51 = .ok (.istore 5, 2) := by decide +kernel
theorem dX1_write_53 : decode cX1_write 53 = .ok (.iload 5, 2) := by decide +kernel
theorem dX1_write_55 : decode cX1_write 55 = .ok (.aload_n 3, 1) := by decide +kernel
theorem dX1_write_56 : decode cX1_write 56 = .ok (.getfield 22, 3) := by decide +kernel
theorem dX1_write_59 : decode cX1_write 59 = .ok (.getfield 36, 3) := by decide +kernel
theorem dX1_write_62 : decode cX1_write 62 = .ok (.if_icmp .ge 33, 3) := by decide +kernel
theorem dX1_write_65 : decode cX1_write 65 = .ok (.aload_n 0, 1) := by decide +kernel
theorem dX1_write_66 : decode cX1_write 66 = .ok (.getfield 9, 3) := by decide +kernel
theorem dX1_write_69 : decode cX1_write 69 = .ok (.iload 4, 2) := by decide +kernel
theorem dX1_write_71 : decode cX1_write 71 = .ok (.iconst 2, 1) := by decide +kernel
theorem dX1_write_72 : decode cX1_write 72 = .ok (.iadd, 1) := by decide +kernel
theorem dX1_write_73 : decode cX1_write 73 = .ok (.iload 5, 2) := by decide +kernel
theorem dX1_write_75 : decode cX1_write 75 = .ok (.iadd, 1) := by decide +kernel
theorem dX1_write_76 : decode cX1_write 76 = .ok (.aload_n 3, 1) := by decide +kernel
theorem dX1_write_77 : decode cX1_write 77 = .ok (.getfield 39, 3) := by decide +kernel
theorem dX1_write_80 : decode cX1_write 80 = .ok (.iload 5, 2) := by decide +kernel
theorem dX1_write_82 : decode cX1_write 82 = .ok (.bipush 6, 2) := by decide +kernel
theorem dX1_write_84 : decode cX1_write 84 = .ok (.imul, 1) := by decide +kernel
theorem dX1_write_85 : decode cX1_write 85 = .ok (.iconst 0, 1) := by decide +kernel
theorem dX1_write_86 : decode cX1_write 86 = .ok (.iadd, 1) := by decide +kernel
theorem dX1_write_87 : decode cX1_write 87 = .ok (.laload, 1) := by decide +kernel
theorem dX1_write_88 : decode cX1_write 88 = .ok (.lastore, 1) := by decide +kernel
theorem dX1_write_89 : decode cX1_write 89 = .ok (.iinc 5 1, 3) := by decide +kernel
theorem dX1_write_92 : decode cX1_write 92 = .ok (.goto (-39), 3) := by decide +kernel
theorem dX1_write_95 : decode cX1_write 95 = .ok (.aload_n 0, 1) := by decide +kernel
theorem dX1_write_96 : decode cX1_write 96 = .ok (.dup, 1) := by decide +kernel
theorem dX1_write_97 : decode cX1_write 97 = .ok (.getfield 18, 3) := by decide +kernel
theorem dX1_write_100 : decode cX1_write 100 = .ok (.iconst 1, 1) := by decide +kernel
theorem dX1_write_101 : decode cX1_write 101 = .ok (.iadd, 1) := by decide +kernel
theorem dX1_write_102 : decode cX1_write 102 = .ok (.putfield 18, 3) := by decide +kernel
theorem dX1_write_105 : decode cX1_write 105 = .ok (.return_, 1) := by decide +kernel
theorem dX1_agrees_0 : decode cX1_agrees 0 = .ok (.aload_n 0, 1) := by decide +kernel
theorem dX1_agrees_1 : decode cX1_agrees 1 = .ok (.iload_n 1, 1) := by decide +kernel
theorem dX1_agrees_2 : decode cX1_agrees 2 = .ok (.invokevirtual 40, 3) := by decide +kernel
theorem dX1_agrees_5 : decode cX1_agrees 5 = .ok (.aload_n 2, 1) := by decide +kernel
theorem dX1_agrees_6 : decode cX1_agrees 6 = .ok (.getfield 22, 3) := by decide +kernel
theorem dX1_agrees_9 : decode cX1_agrees 9 = .ok (.getfield 28, 3) := by decide +kernel
theorem dX1_agrees_12 : decode cX1_agrees 12 = .ok (.aload_n 2, 1) := by decide +kernel
theorem dX1_agrees_13 : decode cX1_agrees 13 = .ok (.getfield 33, 3) := by decide +kernel
theorem dX1_agrees_16 : decode cX1_agrees 16 = .ok (.laload, 1) := by decide +kernel
theorem dX1_agrees_17 : decode cX1_agrees 17 = .ok (.lcmp, 1) := by decide +kernel
theorem dX1_agrees_18 : decode cX1_agrees 18 = .ok (.ifCond .eq 5, 3) := by decide +kernel
theorem dX1_agrees_21 : decode cX1_agrees 21 = .ok (.iconst 0, 1) := by decide +kernel
theorem dX1_agrees_22 : decode cX1_agrees 22 = .ok (.ireturn, 1) := by decide +kernel
theorem dX1_agrees_23 : decode cX1_agrees 23 = .ok (.iconst 0, 1) := by decide +kernel
theorem dX1_agrees_24 : decode cX1_agrees 24 = .ok (.istore_n 3, 1) := by decide +kernel
theorem dX1_agrees_25 : decode cX1_agrees 25 = .ok (.iload_n 3, 1) := by decide +kernel
theorem dX1_agrees_26 : decode cX1_agrees 26 = .ok (.aload_n 2, 1) := by decide +kernel
theorem dX1_agrees_27 : decode cX1_agrees 27 = .ok (.getfield 22, 3) := by decide +kernel
theorem dX1_agrees_30 : decode cX1_agrees 30 = .ok (.getfield 36, 3) := by decide +kernel
theorem dX1_agrees_33 : decode cX1_agrees 33 = .ok (.if_icmp .ge 39, 3) := by decide +kernel
theorem dX1_agrees_36 : decode cX1_agrees 36 = .ok (.aload_n 0, 1) := by decide +kernel
theorem dX1_agrees_37 : decode cX1_agrees 37 = .ok (.getfield 9, 3) := by decide +kernel
theorem dX1_agrees_40 : decode cX1_agrees 40 = .ok (.iload_n 1, 1) := by decide +kernel
theorem dX1_agrees_41 : decode cX1_agrees 41 = .ok (.bipush 7, 2) := by decide +kernel
theorem dX1_agrees_43 : decode cX1_agrees 43 = .ok (.imul, 1) := by decide +kernel
theorem dX1_agrees_44 : decode cX1_agrees 44 = .ok (.iconst 2, 1) := by decide +kernel
theorem dX1_agrees_45 : decode cX1_agrees 45 = .ok (.iadd, 1) := by decide +kernel
theorem dX1_agrees_46 : decode cX1_agrees 46 = .ok (.iload_n 3, 1) := by decide +kernel
theorem dX1_agrees_47 : decode cX1_agrees 47 = .ok (.iadd, 1) := by decide +kernel
theorem dX1_agrees_48 : decode cX1_agrees 48 = .ok (.laload, 1) := by decide +kernel
theorem dX1_agrees_49 : decode cX1_agrees 49 = .ok (.aload_n 2, 1) := by decide +kernel
theorem dX1_agrees_50 : decode cX1_agrees 50 = .ok (.getfield 39, 3) := by decide +kernel
theorem dX1_agrees_53 : decode cX1_agrees 53 = .ok (.iload_n 3, 1) := by decide +kernel
theorem dX1_agrees_54 : decode cX1_agrees 54 = .ok (.bipush 6, 2) := by decide +kernel
theorem dX1_agrees_56 : decode cX1_agrees 56 = .ok (.imul, 1) := by decide +kernel
theorem dX1_agrees_57 : decode cX1_agrees 57 = .ok (.iconst 0, 1) := by decide +kernel
theorem dX1_agrees_58 : decode cX1_agrees 58 = .ok (.iadd, 1) := by decide +kernel
theorem dX1_agrees_59 : decode cX1_agrees 59 = .ok (.laload, 1) := by decide +kernel
theorem dX1_agrees_60 : decode cX1_agrees 60 = .ok (.lcmp, 1) := by decide +kernel
theorem dX1_agrees_61 : decode cX1_agrees 61 = .ok (.ifCond .eq 5, 3) := by decide +kernel
theorem dX1_agrees_64 : decode cX1_agrees 64 = .ok (.iconst 0, 1) := by decide +kernel
theorem dX1_agrees_65 : decode cX1_agrees 65 = .ok (.ireturn, 1) := by decide +kernel
theorem dX1_agrees_66 : decode cX1_agrees 66 = .ok (.iinc 3 1, 3) := by decide +kernel
theorem dX1_agrees_69 : decode cX1_agrees 69 = .ok (.goto (-44), 3) := by decide +kernel
theorem dX1_agrees_72 : decode cX1_agrees 72 = .ok (.iconst 1, 1) := by decide +kernel
theorem dX1_agrees_73 : decode cX1_agrees 73 = .ok (.ireturn, 1) := by decide +kernel
theorem dX1_runningSum_0 : decode cX1_runningSum 0 = .ok (.lconst 0, 1) := by decide +kernel
theorem dX1_runningSum_1 : decode cX1_runningSum 1 = .ok (.lstore_n 3, 1) := by decide +kernel
theorem dX1_runningSum_2 : decode cX1_runningSum 2 = .ok (.lconst 0, 1) := by decide +kernel
theorem dX1_runningSum_3 : decode cX1_runningSum 3 = .ok (.lstore 5, 2) := by decide +kernel
theorem dX1_runningSum_5 : decode cX1_runningSum 5 = .ok (.lconst 0, 1) := by decide +kernel
theorem dX1_runningSum_6 : decode cX1_runningSum 6 = .ok (.lstore 7, 2) := by decide +kernel
theorem dX1_runningSum_8 : decode cX1_runningSum 8 = .ok (.lconst 0, 1) := by decide +kernel
theorem dX1_runningSum_9 : decode cX1_runningSum 9 = .ok (.lstore 9, 2) := by decide +kernel
theorem dX1_runningSum_11 : decode cX1_runningSum 11 = .ok (.iconst 0, 1) := by decide +kernel
theorem dX1_runningSum_12 : decode cX1_runningSum 12 = .ok (.istore 11, 2) := by decide +kernel
theorem dX1_runningSum_14 : decode cX1_runningSum 14 = .ok (.iload 11, 2) := by decide +kernel
theorem dX1_runningSum_16 : decode cX1_runningSum 16 = .ok (.iload_n 2, 1) := by decide +kernel
theorem dX1_runningSum_17 : decode cX1_runningSum 17 = .ok (.if_icmp .gt 38, 3) := by decide +kernel
theorem dX1_runningSum_20 : decode cX1_runningSum 20 = .ok (.lload_n 3, 1) := by decide +kernel
theorem dX1_runningSum_21 : decode cX1_runningSum 21 = .ok (.aload_n 0, 1) := by decide +kernel
theorem dX1_runningSum_22 : decode cX1_runningSum 22 = .ok (.iload 11, 2) := by decide +kernel
theorem dX1_runningSum_24 : decode cX1_runningSum 24 = .ok (.invokevirtual 40, 3) := by decide +kernel
theorem dX1_runningSum_27 : decode cX1_runningSum 27 = .ok (.ladd, 1) := by decide +kernel
theorem dX1_runningSum_28 : decode cX1_runningSum 28 = .ok (.lstore_n 3, 1) := by decide +kernel
theorem dX1_runningSum_29 : decode cX1_runningSum 29 = .ok (.lload 5, 2) := by decide +kernel
theorem dX1_runningSum_31 : decode cX1_runningSum 31 = .ok (.lload_n 3, 1) := by decide +kernel
theorem dX1_runningSum_32 : decode cX1_runningSum 32 = .ok (.ladd, 1) := by decide +kernel
theorem dX1_runningSum_33 : decode cX1_runningSum 33 = .ok (.lstore 5, 2) := by decide +kernel
theorem dX1_runningSum_35 : decode cX1_runningSum 35 = .ok (.lload 7, 2) := by decide +kernel
theorem dX1_runningSum_37 : decode cX1_runningSum 37 = .ok (.lload 5, 2) := by decide +kernel
theorem dX1_runningSum_39 : decode cX1_runningSum 39 = .ok (.ladd, 1) := by decide +kernel
theorem dX1_runningSum_40 : decode cX1_runningSum 40 = .ok (.lstore 7, 2) := by decide +kernel
theorem dX1_runningSum_42 : decode cX1_runningSum 42 = .ok (.lload 9, 2) := by decide +kernel
theorem dX1_runningSum_44 : decode cX1_runningSum 44 = .ok (.lload 7, 2) := by decide +kernel
theorem dX1_runningSum_46 : decode cX1_runningSum 46 = .ok (.ladd, 1) := by decide +kernel
theorem dX1_runningSum_47 : decode cX1_runningSum 47 = .ok (.lstore 9, 2) := by decide +kernel
theorem dX1_runningSum_49 : decode cX1_runningSum 49 = .ok (.iinc 11 1, 3) := by decide +kernel
theorem dX1_runningSum_52 : decode cX1_runningSum 52 = .ok (.goto (-38), 3) := by decide +kernel
theorem dX1_runningSum_55 : decode cX1_runningSum 55 = .ok (.iload_n 1, 1) := by decide +kernel
theorem dX1_runningSum_56 : decode cX1_runningSum 56 = .ok (.tableswitch 36 1 3 #[28, 30, 33], 28) := by decide +kernel
theorem dX1_runningSum_84 : decode cX1_runningSum 84 = .ok (.lload_n 3, 1) := by decide +kernel
theorem dX1_runningSum_85 : decode cX1_runningSum 85 = .ok (.lreturn, 1) := by decide +kernel
theorem dX1_runningSum_86 : decode cX1_runningSum 86 = .ok (.lload 5, 2) := by decide +kernel
theorem dX1_runningSum_88 : decode cX1_runningSum 88 = .ok (.lreturn, 1) := by decide +kernel
theorem dX1_runningSum_89 : decode cX1_runningSum 89 = .ok (.lload 7, 2) := by decide +kernel
theorem dX1_runningSum_91 : decode cX1_runningSum 91 = .ok (.lreturn, 1) := by decide +kernel
theorem dX1_runningSum_92 : decode cX1_runningSum 92 = .ok (.lload 9, 2) := by decide +kernel
theorem dX1_runningSum_94 : decode cX1_runningSum 94 = .ok (.lreturn, 1) := by decide +kernel
theorem dX2_init_0 : decode cX2_init 0 = .ok (.aload_n 0, 1) := by decide +kernel
theorem dX2_init_1 : decode cX2_init 1 = .ok (.invokespecial 3, 3) := by decide +kernel
theorem dX2_init_4 : decode cX2_init 4 = .ok (.aload_n 0, 1) := by decide +kernel
theorem dX2_init_5 : decode cX2_init 5 = .ok (.sipush 500, 3) := by decide +kernel
theorem dX2_init_8 : decode cX2_init 8 = .ok (.newarray .int, 2) := by decide +kernel
theorem dX2_init_10 : decode cX2_init 10 = .ok (.putfield 9, 3) := by decide +kernel
theorem dX2_init_13 : decode cX2_init 13 = .ok (.aload_n 0, 1) := by decide +kernel
theorem dX2_init_14 : decode cX2_init 14 = .ok (.sipush 500, 3) := by decide +kernel
theorem dX2_init_17 : decode cX2_init 17 = .ok (.newarray .long, 2) := by decide +kernel
theorem dX2_init_19 : decode cX2_init 19 = .ok (.putfield 15, 3) := by decide +kernel
theorem dX2_init_22 : decode cX2_init 22 = .ok (.aload_n 0, 1) := by decide +kernel
theorem dX2_init_23 : decode cX2_init 23 = .ok (.sipush 500, 3) := by decide +kernel
theorem dX2_init_26 : decode cX2_init 26 = .ok (.newarray .long, 2) := by decide +kernel
theorem dX2_init_28 : decode cX2_init 28 = .ok (.putfield 19, 3) := by decide +kernel
theorem dX2_init_31 : decode cX2_init 31 = .ok (.aload_n 0, 1) := by decide +kernel
theorem dX2_init_32 : decode cX2_init 32 = .ok (.iconst 0, 1) := by decide +kernel
theorem dX2_init_33 : decode cX2_init 33 = .ok (.putfield 22, 3) := by decide +kernel
theorem dX2_init_36 : decode cX2_init 36 = .ok (.aload_n 0, 1) := by decide +kernel
theorem dX2_init_37 : decode cX2_init 37 = .ok (.aload_n 1, 1) := by decide +kernel
theorem dX2_init_38 : decode cX2_init 38 = .ok (.putfield 26, 3) := by decide +kernel
theorem dX2_init_41 : decode cX2_init 41 = .ok (.aload_n 0, 1) := by decide +kernel
theorem dX2_init_42 : decode cX2_init 42 = .ok (.aload_n 2, 1) := by decide +kernel
theorem dX2_init_43 : decode cX2_init 43 = .ok (.putfield 30, 3) := by decide +kernel
theorem dX2_init_46 : decode cX2_init 46 = .ok (.return_, 1) := by decide +kernel
theorem dX2_findStands_0 : decode cX2_findStands 0 = .ok (.aload_n 0, 1) := by decide +kernel
theorem dX2_findStands_1 : decode cX2_findStands 1 = .ok (.iconst 0, 1) := by decide +kernel
theorem dX2_findStands_2 : decode cX2_findStands 2 = .ok (.putfield 22, 3) := by decide +kernel
theorem dX2_findStands_5 : decode cX2_findStands 5 = .ok (.aload_n 0, 1) := by decide +kernel
theorem dX2_findStands_6 : decode cX2_findStands 6 = .ok (.getfield 30, 3) := by decide +kernel
theorem dX2_findStands_9 : decode cX2_findStands 9 = .ok (.invokevirtual 34, 3) := by decide +kernel
theorem dX2_findStands_12 : decode cX2_findStands 12 = .ok (.aload_n 0, 1) := by decide +kernel
theorem dX2_findStands_13 : decode cX2_findStands 13 = .ok (.getfield 30, 3) := by decide +kernel
theorem dX2_findStands_16 : decode cX2_findStands 16 = .ok (.aload_n 1, 1) := by decide +kernel
theorem dX2_findStands_17 : decode cX2_findStands 17 = .ok (.invokevirtual 39, 3) := by decide +kernel
theorem dX2_findStands_20 : decode cX2_findStands 20 = .ok (.pop, 1) := by decide +kernel
theorem dX2_findStands_21 : decode cX2_findStands 21 = .ok (.aload_n 0, 1) := by decide +kernel
theorem dX2_findStands_22 : decode cX2_findStands 22 = .ok (.getfield 30, 3) := by decide +kernel
theorem dX2_findStands_25 : decode cX2_findStands 25 = .ok (.invokevirtual 43, 3) := by decide +kernel
theorem dX2_findStands_28 : decode cX2_findStands 28 = .ok (.iconst 0, 1) := by decide +kernel
theorem dX2_findStands_29 : decode cX2_findStands 29 = .ok (.istore 8, 2) := by decide +kernel
theorem dX2_findStands_31 : decode cX2_findStands 31 = .ok (.iload 8, 2) := by decide +kernel
theorem dX2_findStands_33 : decode cX2_findStands 33 = .ok (.sipush 500, 3) := by decide +kernel
theorem dX2_findStands_36 : decode cX2_findStands 36 = .ok (.if_icmp .ge 62, 3) := by decide +kernel
theorem dX2_findStands_39 : decode cX2_findStands 39 = .ok (.iload 8, 2) := by decide +kernel
theorem dX2_findStands_41 : decode cX2_findStands 41 = .ok (.aload_n 0, 1) := by decide +kernel
theorem dX2_findStands_42 : decode cX2_findStands 42 = .ok (.getfield 30, 3) := by decide +kernel
theorem dX2_findStands_45 : decode cX2_findStands 45 = .ok (.getfield 46, 3) := by decide +kernel
theorem dX2_findStands_48 : decode cX2_findStands 48 = .ok (.if_icmp .ge 50, 3) := by decide +kernel
theorem dX2_findStands_51 : decode cX2_findStands 51 = .ok (.lload_n 2, 1) := by decide +kernel
theorem dX2_findStands_52 : decode cX2_findStands 52 = .ok (.lstore 9, 2) := by decide +kernel
theorem dX2_findStands_54 : decode cX2_findStands 54 = .ok (.lload 9, 2) := by decide +kernel
theorem dX2_findStands_56 : decode cX2_findStands 56 = .ok (.lload 4, 2) := by decide +kernel
theorem dX2_findStands_58 : decode cX2_findStands 58 = .ok (.lcmp, 1) := by decide +kernel
theorem dX2_findStands_59 : decode cX2_findStands 59 = .ok (.ifCond .gt 33, 3) := by decide +kernel
theorem dX2_findStands_62 : decode cX2_findStands 62 = .ok (.aload_n 0, 1) := by decide +kernel
theorem dX2_findStands_63 : decode cX2_findStands 63 = .ok (.iload 8, 2) := by decide +kernel
theorem dX2_findStands_65 : decode cX2_findStands 65 = .ok (.aload_n 1, 1) := by decide +kernel
theorem dX2_findStands_66 : decode cX2_findStands 66 = .ok (.lload 9, 2) := by decide +kernel
theorem dX2_findStands_68 : decode cX2_findStands 68 = .ok (.lload 6, 2) := by decide +kernel
theorem dX2_findStands_70 : decode cX2_findStands 70 = .ok (.invokevirtual 49, 3) := by decide +kernel
theorem dX2_findStands_73 : decode cX2_findStands 73 = .ok (.istore 11, 2) := by decide +kernel
theorem dX2_findStands_75 : decode cX2_findStands 75 = .ok (.iload 11, 2) := by decide +kernel
theorem dX2_findStands_77 : decode cX2_findStands 77 = .ok (.ifCond .eq 6, 3) := by decide +kernel
theorem dX2_findStands_80 : decode cX2_findStands 80 = .ok (.iload 11, 2) := by decide +kernel
theorem dX2_findStands_82 : decode cX2_findStands 82 = .ok (.ireturn, 1) := by decide +kernel
theorem dX2_findStands_83 : decode cX2_findStands 83 = .ok (.lload 9, 2) := by decide +kernel
theorem dX2_findStands_85 : decode cX2_findStands 85 = .ok (.lconst 1, 1) := by decide +kernel
theorem dX2_findStands_86 : decode cX2_findStands 86 = .ok (.ladd, 1) := by decide +kernel
theorem dX2_findStands_87 : decode cX2_findStands 87 = .ok (.lstore 9, 2) := by decide +kernel
theorem dX2_findStands_89 : decode cX2_findStands 89 = .ok (.goto (-35), 3) := by decide +kernel
theorem dX2_findStands_92 : decode cX2_findStands 92 = .ok (.iinc 8 1, 3) := by decide +kernel
theorem dX2_findStands_95 : decode cX2_findStands 95 = .ok (.goto (-64), 3) := by decide +kernel
theorem dX2_findStands_98 : decode cX2_findStands 98 = .ok (.aload_n 0, 1) := by decide +kernel
theorem dX2_findStands_99 : decode cX2_findStands 99 = .ok (.getfield 30, 3) := by decide +kernel
theorem dX2_findStands_102 : decode cX2_findStands 102 = .ok (.getfield 46, 3) := by decide +kernel
theorem dX2_findStands_105 : decode cX2_findStands 105 = .ok (.ireturn, 1) := by decide +kernel
theorem dX2_tryFrom_0 : decode cX2_tryFrom 0 = .ok (.aload_n 0, 1) := by decide +kernel
theorem dX2_tryFrom_1 : decode cX2_tryFrom 1 = .ok (.getfield 30, 3) := by decide +kernel
theorem dX2_tryFrom_4 : decode cX2_tryFrom 4 = .ok (.iload_n 1, 1) := by decide +kernel
theorem dX2_tryFrom_5 : decode cX2_tryFrom 5 = .ok (.aload_n 2, 1) := by decide +kernel
theorem dX2_tryFrom_6 : decode cX2_tryFrom 6 = .ok (.invokevirtual 53, 3) := by decide +kernel
theorem dX2_tryFrom_9 : decode cX2_tryFrom 9 = .ok (.aload_n 2, 1) := by decide +kernel
theorem dX2_tryFrom_10 : decode cX2_tryFrom 10 = .ok (.lload_n 3, 1) := by decide +kernel
theorem dX2_tryFrom_11 : decode cX2_tryFrom 11 = .ok (.invokevirtual 57, 3) := by decide +kernel
theorem dX2_tryFrom_14 : decode cX2_tryFrom 14 = .ok (.ifCond .ne 6, 3) := by decide +kernel
theorem dX2_tryFrom_17 : decode cX2_tryFrom 17 = .ok (.bipush (-6), 2) := by decide +kernel
theorem dX2_tryFrom_19 : decode cX2_tryFrom 19 = .ok (.ireturn, 1) := by decide +kernel
theorem dX2_tryFrom_20 : decode cX2_tryFrom 20 = .ok (.aload_n 0, 1) := by decide +kernel
theorem dX2_tryFrom_21 : decode cX2_tryFrom 21 = .ok (.aload_n 2, 1) := by decide +kernel
theorem dX2_tryFrom_22 : decode cX2_tryFrom 22 = .ok (.lload 5, 2) := by decide +kernel
theorem dX2_tryFrom_24 : decode cX2_tryFrom 24 = .ok (.invokevirtual 63, 3) := by decide +kernel
theorem dX2_tryFrom_27 : decode cX2_tryFrom 27 = .ok (.ifCond .eq 17, 3) := by decide +kernel
theorem dX2_tryFrom_30 : decode cX2_tryFrom 30 = .ok (.aload_n 0, 1) := by decide +kernel
theorem dX2_tryFrom_31 : decode cX2_tryFrom 31 = .ok (.iload_n 1, 1) := by decide +kernel
theorem dX2_tryFrom_32 : decode cX2_tryFrom 32 = .ok (.lload_n 3, 1) := by decide +kernel
theorem dX2_tryFrom_33 : decode cX2_tryFrom 33 = .ok (.invokevirtual 67, 3) := by decide +kernel
theorem dX2_tryFrom_36 : decode cX2_tryFrom 36 = .ok (.bipush (-100), 2) := by decide +kernel
theorem dX2_tryFrom_38 : decode cX2_tryFrom 38 = .ok (.aload_n 0, 1) := by decide +kernel
theorem dX2_tryFrom_39 : decode cX2_tryFrom 39 = .ok (.getfield 22, 3) := by decide +kernel
theorem dX2_tryFrom_42 : decode cX2_tryFrom 42 = .ok (.isub, 1) := by decide +kernel
theorem dX2_tryFrom_43 : decode cX2_tryFrom 43 = .ok (.ireturn, 1) := by decide +kernel
theorem dX2_tryFrom_44 : decode cX2_tryFrom 44 = .ok (.aload_n 0, 1) := by decide +kernel
theorem dX2_tryFrom_45 : decode cX2_tryFrom 45 = .ok (.getfield 30, 3) := by decide +kernel
theorem dX2_tryFrom_48 : decode cX2_tryFrom 48 = .ok (.aload_n 2, 1) := by decide +kernel
theorem dX2_tryFrom_49 : decode cX2_tryFrom 49 = .ok (.invokevirtual 39, 3) := by decide +kernel
theorem dX2_tryFrom_52 : decode cX2_tryFrom 52 = .ok (.ifCond .lt 5, 3) := by decide +kernel
theorem dX2_tryFrom_55 : decode cX2_tryFrom 55 = .ok (.iconst 0, 1) := by decide +kernel
theorem dX2_tryFrom_56 : decode cX2_tryFrom 56 = .ok (.ireturn, 1) := by decide +kernel
theorem dX2_tryFrom_57 : decode cX2_tryFrom 57 = .ok (.aload_n 0, 1) := by decide +kernel
theorem dX2_tryFrom_58 : decode cX2_tryFrom 58 = .ok (.getfield 30, 3) := by decide +kernel
theorem dX2_tryFrom_61 : decode cX2_tryFrom 61 = .ok (.getfield 46, 3) := by decide +kernel
theorem dX2_tryFrom_64 : decode cX2_tryFrom 64 = .ok (.sipush 500, 3) := by decide +kernel
theorem dX2_tryFrom_67 : decode cX2_tryFrom 67 = .ok (.if_icmp .lt 6, 3) := by decide +kernel
theorem dX2_tryFrom_70 : decode cX2_tryFrom 70 = .ok (.bipush (-5), 2) := by decide +kernel
theorem dX2_tryFrom_72 : decode cX2_tryFrom 72 = .ok (.ireturn, 1) := by decide +kernel
theorem dX2_tryFrom_73 : decode cX2_tryFrom 73 = .ok (.aload_n 0, 1) := by decide +kernel
theorem dX2_tryFrom_74 : decode cX2_tryFrom 74 = .ok (.getfield 9, 3) := by decide +kernel
theorem dX2_tryFrom_77 : decode cX2_tryFrom 77 = .ok (.aload_n 0, 1) := by decide +kernel
theorem dX2_tryFrom_78 : decode cX2_tryFrom 78 = .ok (.getfield 30, 3) := by decide +kernel
theorem dX2_tryFrom_81 : decode cX2_tryFrom 81 = .ok (.getfield 46, 3) := by decide +kernel
theorem dX2_tryFrom_84 : decode cX2_tryFrom 84 = .ok (.iload_n 1, 1) := by decide +kernel
theorem dX2_tryFrom_85 : decode cX2_tryFrom 85 = .ok (.iastore, 1) := by decide +kernel
theorem dX2_tryFrom_86 : decode cX2_tryFrom 86 = .ok (.aload_n 0, 1) := by decide +kernel
theorem dX2_tryFrom_87 : decode cX2_tryFrom 87 = .ok (.getfield 15, 3) := by decide +kernel
theorem dX2_tryFrom_90 : decode cX2_tryFrom 90 = .ok (.aload_n 0, 1) := by decide +kernel
theorem dX2_tryFrom_91 : decode cX2_tryFrom 91 = .ok (.getfield 30, 3) := by decide +kernel
theorem dX2_tryFrom_94 : decode cX2_tryFrom 94 = .ok (.getfield 46, 3) := by decide +kernel
theorem dX2_tryFrom_97 : decode cX2_tryFrom 97 = .ok (.lload_n 3, 1) := by decide +kernel
theorem dX2_tryFrom_98 : decode cX2_tryFrom 98 = .ok (.lastore, 1) := by decide +kernel
theorem dX2_tryFrom_99 : decode cX2_tryFrom 99 = .ok (.aload_n 0, 1) := by decide +kernel
theorem dX2_tryFrom_100 : decode cX2_tryFrom 100 = .ok (.getfield 30, 3) := by decide +kernel
theorem dX2_tryFrom_103 : decode cX2_tryFrom 103 = .ok (.invokevirtual 43, 3) := by decide +kernel
theorem dX2_tryFrom_106 : decode cX2_tryFrom 106 = .ok (.iconst 0, 1) := by decide +kernel
theorem dX2_tryFrom_107 : decode cX2_tryFrom 107 = .ok (.ireturn, 1) := by decide +kernel
theorem dX2_isBeyond_0 : decode cX2_isBeyond 0 = .ok (.iconst 0, 1) := by decide +kernel
theorem dX2_isBeyond_1 : decode cX2_isBeyond 1 = .ok (.istore 4, 2) := by decide +kernel
theorem dX2_isBeyond_3 : decode cX2_isBeyond 3 = .ok (.iload 4, 2) := by decide +kernel
theorem dX2_isBeyond_5 : decode cX2_isBeyond 5 = .ok (.aload_n 0, 1) := by decide +kernel
theorem dX2_isBeyond_6 : decode cX2_isBeyond 6 = .ok (.getfield 26, 3) := by decide +kernel
theorem dX2_isBeyond_9 : decode cX2_isBeyond 9 = .ok (.getfield 71, 3) := by decide +kernel
theorem dX2_isBeyond_12 : decode cX2_isBeyond 12 = .ok (.if_icmp .ge 40, 3) := by decide +kernel
theorem dX2_isBeyond_15 : decode cX2_isBeyond 15 = .ok (.aload_n 1, 1) := by decide +kernel
theorem dX2_isBeyond_16 : decode cX2_isBeyond 16 = .ok (.getfield 76, 3) := by decide +kernel
theorem dX2_isBeyond_19 : decode cX2_isBeyond 19 = .ok (.iload 4, 2) := by decide +kernel
theorem dX2_isBeyond_21 : decode cX2_isBeyond 21 = .ok (.bipush 6, 2) := by decide +kernel
theorem dX2_isBeyond_23 : decode cX2_isBeyond 23 = .ok (.imul, 1) := by decide +kernel
theorem dX2_isBeyond_24 : decode cX2_isBeyond 24 = .ok (.iconst 0, 1) := by decide +kernel
theorem dX2_isBeyond_25 : decode cX2_isBeyond 25 = .ok (.iadd, 1) := by decide +kernel
theorem dX2_isBeyond_26 : decode cX2_isBeyond 26 = .ok (.laload, 1) := by decide +kernel
theorem dX2_isBeyond_27 : decode cX2_isBeyond 27 = .ok (.lstore 5, 2) := by decide +kernel
theorem dX2_isBeyond_29 : decode cX2_isBeyond 29 = .ok (.lload 5, 2) := by decide +kernel
theorem dX2_isBeyond_31 : decode cX2_isBeyond 31 = .ok (.lload_n 2, 1) := by decide +kernel
theorem dX2_isBeyond_32 : decode cX2_isBeyond 32 = .ok (.lcmp, 1) := by decide +kernel
theorem dX2_isBeyond_33 : decode cX2_isBeyond 33 = .ok (.ifCond .gt 11, 3) := by decide +kernel
theorem dX2_isBeyond_36 : decode cX2_isBeyond 36 = .ok (.lload 5, 2) := by decide +kernel
theorem dX2_isBeyond_38 : decode cX2_isBeyond 38 = .ok (.lload_n 2, 1) := by decide +kernel
theorem dX2_isBeyond_39 : decode cX2_isBeyond 39 = .ok (.lneg, 1) := by decide +kernel
theorem dX2_isBeyond_40 : decode cX2_isBeyond 40 = .ok (.lcmp, 1) := by decide +kernel
theorem dX2_isBeyond_41 : decode cX2_isBeyond 41 = .ok (.ifCond .ge 5, 3) := by decide +kernel
theorem dX2_isBeyond_44 : decode cX2_isBeyond 44 = .ok (.iconst 1, 1) := by decide +kernel
theorem dX2_isBeyond_45 : decode cX2_isBeyond 45 = .ok (.ireturn, 1) := by decide +kernel
theorem dX2_isBeyond_46 : decode cX2_isBeyond 46 = .ok (.iinc 4 1, 3) := by decide +kernel
theorem dX2_isBeyond_49 : decode cX2_isBeyond 49 = .ok (.goto (-46), 3) := by decide +kernel
theorem dX2_isBeyond_52 : decode cX2_isBeyond 52 = .ok (.iconst 0, 1) := by decide +kernel
theorem dX2_isBeyond_53 : decode cX2_isBeyond 53 = .ok (.ireturn, 1) := by decide +kernel
theorem dX2_tellRow_0 : decode cX2_tellRow 0 = .ok (.iconst 1, 1) := by decide +kernel
theorem dX2_tellRow_1 : decode cX2_tellRow 1 = .ok (.istore 4, 2) := by decide +kernel
theorem dX2_tellRow_3 : decode cX2_tellRow 3 = .ok (.iload_n 1, 1) := by decide +kernel
theorem dX2_tellRow_4 : decode cX2_tellRow 4 = .ok (.istore 5, 2) := by decide +kernel
theorem dX2_tellRow_6 : decode cX2_tellRow 6 = .ok (.iload 5, 2) := by decide +kernel
theorem dX2_tellRow_8 : decode cX2_tellRow 8 = .ok (.ifCond .le 26, 3) := by decide +kernel
theorem dX2_tellRow_11 : decode cX2_tellRow 11 = .ok (.iload 4, 2) := by decide +kernel
theorem dX2_tellRow_13 : decode cX2_tellRow 13 = .ok (.sipush 500, 3) := by decide +kernel
theorem dX2_tellRow_16 : decode cX2_tellRow 16 = .ok (.if_icmp .ge 18, 3) := by decide +kernel
theorem dX2_tellRow_19 : decode cX2_tellRow 19 = .ok (.iinc 4 1, 3) := by decide +kernel
theorem dX2_tellRow_22 : decode cX2_tellRow 22 = .ok (.aload_n 0, 1) := by decide +kernel
theorem dX2_tellRow_23 : decode cX2_tellRow 23 = .ok (.getfield 9, 3) := by decide +kernel
theorem dX2_tellRow_26 : decode cX2_tellRow 26 = .ok (.iload 5, 2) := by decide +kernel
theorem dX2_tellRow_28 : decode cX2_tellRow 28 = .ok (.iaload, 1) := by decide +kernel
theorem dX2_tellRow_29 : decode cX2_tellRow 29 = .ok (.istore 5, 2) := by decide +kernel
theorem dX2_tellRow_31 : decode cX2_tellRow 31 = .ok (.goto (-25), 3) := by decide +kernel
theorem dX2_tellRow_34 : decode cX2_tellRow 34 = .ok (.aload_n 0, 1) := by decide +kernel
theorem dX2_tellRow_35 : decode cX2_tellRow 35 = .ok (.iload 4, 2) := by decide +kernel
theorem dX2_tellRow_37 : decode cX2_tellRow 37 = .ok (.putfield 22, 3) := by decide +kernel
theorem dX2_tellRow_40 : decode cX2_tellRow 40 = .ok (.aload_n 0, 1) := by decide +kernel
theorem dX2_tellRow_41 : decode cX2_tellRow 41 = .ok (.getfield 19, 3) := by decide +kernel
theorem dX2_tellRow_44 : decode cX2_tellRow 44 = .ok (.iload 4, 2) := by decide +kernel
theorem dX2_tellRow_46 : decode cX2_tellRow 46 = .ok (.iconst 1, 1) := by decide +kernel
theorem dX2_tellRow_47 : decode cX2_tellRow 47 = .ok (.isub, 1) := by decide +kernel
theorem dX2_tellRow_48 : decode cX2_tellRow 48 = .ok (.lload_n 2, 1) := by decide +kernel
theorem dX2_tellRow_49 : decode cX2_tellRow 49 = .ok (.lastore, 1) := by decide +kernel
theorem dX2_tellRow_50 : decode cX2_tellRow 50 = .ok (.iload 4, 2) := by decide +kernel
theorem dX2_tellRow_52 : decode cX2_tellRow 52 = .ok (.iconst 2, 1) := by decide +kernel
theorem dX2_tellRow_53 : decode cX2_tellRow 53 = .ok (.isub, 1) := by decide +kernel
theorem dX2_tellRow_54 : decode cX2_tellRow 54 = .ok (.istore 5, 2) := by decide +kernel
theorem dX2_tellRow_56 : decode cX2_tellRow 56 = .ok (.iload_n 1, 1) := by decide +kernel
theorem dX2_tellRow_57 : decode cX2_tellRow 57 = .ok (.istore 6, 2) := by decide +kernel
theorem dX2_tellRow_59 : decode cX2_tellRow 59 = .ok (.iload 6, 2) := by decide +kernel
theorem dX2_tellRow_61 : decode cX2_tellRow 61 = .ok (.ifCond .le 37, 3) := by decide +kernel
theorem dX2_tellRow_64 : decode cX2_tellRow 64 = .ok (.iload 5, 2) := by decide +kernel
theorem dX2_tellRow_66 : decode cX2_tellRow 66 = .ok (.ifCond .lt 32, 3) := by decide +kernel
theorem dX2_tellRow_69 : decode cX2_tellRow 69 = .ok (.aload_n 0, 1) := by decide +kernel
theorem dX2_tellRow_70 : decode cX2_tellRow 70 = .ok (.getfield 19, 3) := by decide +kernel
theorem dX2_tellRow_73 : decode cX2_tellRow 73 = .ok (.iload 5, 2) := by decide +kernel
theorem dX2_tellRow_75 : decode cX2_tellRow 75 = .ok (.aload_n 0, 1) := by decide +kernel
theorem dX2_tellRow_76 : decode cX2_tellRow 76 = .ok (.getfield 15, 3) := by decide +kernel
theorem dX2_tellRow_79 : decode cX2_tellRow 79 = .ok (.iload 6, 2) := by decide +kernel
theorem dX2_tellRow_81 : decode cX2_tellRow 81 = .ok (.laload, 1) := by decide +kernel
theorem dX2_tellRow_82 : decode cX2_tellRow 82 = .ok (.lastore, 1) := by decide +kernel
theorem dX2_tellRow_83 : decode cX2_tellRow 83 = .ok (.iinc 5 (-1), 3) := by decide +kernel
theorem dX2_tellRow_86 : decode cX2_tellRow 86 = .ok (.aload_n 0, 1) := by decide +kernel
theorem dX2_tellRow_87 : decode cX2_tellRow 87 = .ok (.getfield 9, 3) := by decide +kernel
theorem dX2_tellRow_90 : decode cX2_tellRow 90 = .ok (.iload 6, 2) := by decide +kernel
theorem dX2_tellRow_92 : decode cX2_tellRow 92 = .ok (.iaload, 1) := by decide +kernel
theorem dX2_tellRow_93 : decode cX2_tellRow 93 = .ok (.istore 6, 2) := by decide +kernel
theorem dX2_tellRow_95 : decode cX2_tellRow 95 = .ok (.goto (-36), 3) := by decide +kernel
theorem dX2_tellRow_98 : decode cX2_tellRow 98 = .ok (.return_, 1) := by decide +kernel
theorem dX3_init_0 : decode cX3_init 0 = .ok (.aload_n 0, 1) := by decide +kernel
theorem dX3_init_1 : decode cX3_init 1 = .ok (.invokespecial 3, 3) := by decide +kernel
theorem dX3_init_4 : decode cX3_init 4 = .ok (.aload_n 0, 1) := by decide +kernel
theorem dX3_init_5 : decode cX3_init 5 = .ok (.bipush 60, 2) := by decide +kernel
theorem dX3_init_7 : decode cX3_init 7 = .ok (.newarray .long, 2) := by decide +kernel
theorem dX3_init_9 : decode cX3_init 9 = .ok (.putfield 9, 3) := by decide +kernel
theorem dX3_init_12 : decode cX3_init 12 = .ok (.aload_n 0, 1) := by decide +kernel
theorem dX3_init_13 : decode cX3_init 13 = .ok (.iconst 1, 1) := by decide +kernel
theorem dX3_init_14 : decode cX3_init 14 = .ok (.putfield 15, 3) := by decide +kernel
theorem dX3_init_17 : decode cX3_init 17 = .ok (.aload_n 0, 1) := by decide +kernel
theorem dX3_init_18 : decode cX3_init 18 = .ok (.iconst 0, 1) := by decide +kernel
theorem dX3_init_19 : decode cX3_init 19 = .ok (.putfield 19, 3) := by decide +kernel
theorem dX3_init_22 : decode cX3_init 22 = .ok (.aload_n 0, 1) := by decide +kernel
theorem dX3_init_23 : decode cX3_init 23 = .ok (.iconst 0, 1) := by decide +kernel
theorem dX3_init_24 : decode cX3_init 24 = .ok (.putfield 23, 3) := by decide +kernel
theorem dX3_init_27 : decode cX3_init 27 = .ok (.return_, 1) := by decide +kernel
theorem dX3_renew_0 : decode cX3_renew 0 = .ok (.aload_n 0, 1) := by decide +kernel
theorem dX3_renew_1 : decode cX3_renew 1 = .ok (.iconst 0, 1) := by decide +kernel
theorem dX3_renew_2 : decode cX3_renew 2 = .ok (.putfield 15, 3) := by decide +kernel
theorem dX3_renew_5 : decode cX3_renew 5 = .ok (.aload_n 0, 1) := by decide +kernel
theorem dX3_renew_6 : decode cX3_renew 6 = .ok (.iload_n 1, 1) := by decide +kernel
theorem dX3_renew_7 : decode cX3_renew 7 = .ok (.putfield 19, 3) := by decide +kernel
theorem dX3_renew_10 : decode cX3_renew 10 = .ok (.aload_n 0, 1) := by decide +kernel
theorem dX3_renew_11 : decode cX3_renew 11 = .ok (.iload_n 2, 1) := by decide +kernel
theorem dX3_renew_12 : decode cX3_renew 12 = .ok (.putfield 23, 3) := by decide +kernel
theorem dX3_renew_15 : decode cX3_renew 15 = .ok (.aload_n 0, 1) := by decide +kernel
theorem dX3_renew_16 : decode cX3_renew 16 = .ok (.getfield 9, 3) := by decide +kernel
theorem dX3_renew_19 : decode cX3_renew 19 = .ok (.lconst 0, 1) := by decide +kernel
theorem dX3_renew_20 : decode cX3_renew 20 = .ok (.invokestatic 26, 3) := by decide +kernel
theorem dX3_renew_23 : decode cX3_renew 23 = .ok (.return_, 1) := by decide +kernel
theorem dX3_hasItem_0 : decode cX3_hasItem 0 = .ok (.lload_n 1, 1) := by decide +kernel
theorem dX3_hasItem_1 : decode cX3_hasItem 1 = .ok (.lconst 0, 1) := by decide +kernel
theorem dX3_hasItem_2 : decode cX3_hasItem 2 = .ok (.lcmp, 1) := by decide +kernel
theorem dX3_hasItem_3 : decode cX3_hasItem 3 = .ok (.ifCond .lt 17, 3) := by decide +kernel
theorem dX3_hasItem_6 : decode cX3_hasItem 6 = .ok (.lload_n 1, 1) := by decide +kernel
theorem dX3_hasItem_7 : decode cX3_hasItem 7 = .ok (.aload_n 0, 1) := by decide +kernel
theorem dX3_hasItem_8 : decode cX3_hasItem 8 = .ok (.getfield 23, 3) := by decide +kernel
theorem dX3_hasItem_11 : decode cX3_hasItem 11 = .ok (.i2l, 1) := by decide +kernel
theorem dX3_hasItem_12 : decode cX3_hasItem 12 = .ok (.lcmp, 1) := by decide +kernel
theorem dX3_hasItem_13 : decode cX3_hasItem 13 = .ok (.ifCond .ge 7, 3) := by decide +kernel
theorem dX3_hasItem_16 : decode cX3_hasItem 16 = .ok (.iconst 1, 1) := by decide +kernel
theorem dX3_hasItem_17 : decode cX3_hasItem 17 = .ok (.goto 4, 3) := by decide +kernel
theorem dX3_hasItem_20 : decode cX3_hasItem 20 = .ok (.iconst 0, 1) := by decide +kernel
theorem dX3_hasItem_21 : decode cX3_hasItem 21 = .ok (.ireturn, 1) := by decide +kernel
theorem dX3_hasRow_0 : decode cX3_hasRow 0 = .ok (.iload_n 1, 1) := by decide +kernel
theorem dX3_hasRow_1 : decode cX3_hasRow 1 = .ok (.ifCond .lt 29, 3) := by decide +kernel
theorem dX3_hasRow_4 : decode cX3_hasRow 4 = .ok (.iload_n 2, 1) := by decide +kernel
theorem dX3_hasRow_5 : decode cX3_hasRow 5 = .ok (.ifCond .lt 25, 3) := by decide +kernel
theorem dX3_hasRow_8 : decode cX3_hasRow 8 = .ok (.iload_n 1, 1) := by decide +kernel
theorem dX3_hasRow_9 : decode cX3_hasRow 9 = .ok (.aload_n 0, 1) := by decide +kernel
theorem dX3_hasRow_10 : decode cX3_hasRow 10 = .ok (.getfield 23, 3) := by decide +kernel
theorem dX3_hasRow_13 : decode cX3_hasRow 13 = .ok (.if_icmp .gt 17, 3) := by decide +kernel
theorem dX3_hasRow_16 : decode cX3_hasRow 16 = .ok (.iload_n 2, 1) := by decide +kernel
theorem dX3_hasRow_17 : decode cX3_hasRow 17 = .ok (.aload_n 0, 1) := by decide +kernel
theorem dX3_hasRow_18 : decode cX3_hasRow 18 = .ok (.getfield 23, 3) := by decide +kernel
theorem dX3_hasRow_21 : decode cX3_hasRow 21 = .ok (.iload_n 1, 1) := by decide +kernel
theorem dX3_hasRow_22 : decode cX3_hasRow 22 = .ok (.isub, 1) := by decide +kernel
theorem dX3_hasRow_23 : decode cX3_hasRow 23 = .ok (.if_icmp .gt 7, 3) := by decide +kernel
theorem dX3_hasRow_26 : decode cX3_hasRow 26 = .ok (.iconst 1, 1) := by decide +kernel
theorem dX3_hasRow_27 : decode cX3_hasRow 27 = .ok (.goto 4, 3) := by decide +kernel
theorem dX3_hasRow_30 : decode cX3_hasRow 30 = .ok (.iconst 0, 1) := by decide +kernel
theorem dX3_hasRow_31 : decode cX3_hasRow 31 = .ok (.ireturn, 1) := by decide +kernel
theorem dX3_sampleOf_0 : decode cX3_sampleOf 0 = .ok (.aload_n 0, 1) := by decide +kernel
theorem dX3_sampleOf_1 : decode cX3_sampleOf 1 = .ok (.getfield 19, 3) := by decide +kernel
theorem dX3_sampleOf_4 : decode cX3_sampleOf 4 = .ok (.aload_n 0, 1) := by decide +kernel
theorem dX3_sampleOf_5 : decode cX3_sampleOf 5 = .ok (.getfield 9, 3) := by decide +kernel
theorem dX3_sampleOf_8 : decode cX3_sampleOf 8 = .ok (.iload_n 1, 1) := by decide +kernel
theorem dX3_sampleOf_9 : decode cX3_sampleOf 9 = .ok (.laload, 1) := by decide +kernel
theorem dX3_sampleOf_10 : decode cX3_sampleOf 10 = .ok (.invokestatic 32, 3) := by decide +kernel
theorem dX3_sampleOf_13 : decode cX3_sampleOf 13 = .ok (.ifCond .eq 7, 3) := by decide +kernel
theorem dX3_sampleOf_16 : decode cX3_sampleOf 16 = .ok (.lload_n 2, 1) := by decide +kernel
theorem dX3_sampleOf_17 : decode cX3_sampleOf 17 = .ok (.goto 16, 3) := by decide +kernel
theorem dX3_sampleOf_20 : decode cX3_sampleOf 20 = .ok (.aload_n 0, 1) := by decide +kernel
theorem dX3_sampleOf_21 : decode cX3_sampleOf 21 = .ok (.getfield 19, 3) := by decide +kernel
theorem dX3_sampleOf_24 : decode cX3_sampleOf 24 = .ok (.aload_n 0, 1) := by decide +kernel
theorem dX3_sampleOf_25 : decode cX3_sampleOf 25 = .ok (.getfield 9, 3) := by decide +kernel
theorem dX3_sampleOf_28 : decode cX3_sampleOf 28 = .ok (.iload_n 1, 1) := by decide +kernel
theorem dX3_sampleOf_29 : decode cX3_sampleOf 29 = .ok (.laload, 1) := by decide +kernel
theorem dX3_sampleOf_30 : decode cX3_sampleOf 30 = .ok (.invokestatic 36, 3) := by decide +kernel
theorem dX3_sampleOf_33 : decode cX3_sampleOf 33 = .ok (.lreturn, 1) := by decide +kernel
theorem dX4_init_0 : decode cX4_init 0 = .ok (.aload_n 0, 1) := by decide +kernel
theorem dX4_init_1 : decode cX4_init 1 = .ok (.invokespecial 3, 3) := by decide +kernel
theorem dX4_init_4 : decode cX4_init 4 = .ok (.aload_n 0, 1) := by decide +kernel
theorem dX4_init_5 : decode cX4_init 5 = .ok (.sipush 4400, 3) := by decide +kernel
theorem dX4_init_8 : decode cX4_init 8 = .ok (.newarray .long, 2) := by decide +kernel
theorem dX4_init_10 : decode cX4_init 10 = .ok (.putfield 9, 3) := by decide +kernel
theorem dX4_init_13 : decode cX4_init 13 = .ok (.aload_n 0, 1) := by decide +kernel
theorem dX4_init_14 : decode cX4_init 14 = .ok (.sipush 1024, 3) := by decide +kernel
theorem dX4_init_17 : decode cX4_init 17 = .ok (.newarray .int, 2) := by decide +kernel
theorem dX4_init_19 : decode cX4_init 19 = .ok (.putfield 15, 3) := by decide +kernel
theorem dX4_init_22 : decode cX4_init 22 = .ok (.aload_n 0, 1) := by decide +kernel
theorem dX4_init_23 : decode cX4_init 23 = .ok (.bipush 11, 2) := by decide +kernel
theorem dX4_init_25 : decode cX4_init 25 = .ok (.newarray .long, 2) := by decide +kernel
theorem dX4_init_27 : decode cX4_init 27 = .ok (.putfield 19, 3) := by decide +kernel
theorem dX4_init_30 : decode cX4_init 30 = .ok (.aload_n 0, 1) := by decide +kernel
theorem dX4_init_31 : decode cX4_init 31 = .ok (.iconst 0, 1) := by decide +kernel
theorem dX4_init_32 : decode cX4_init 32 = .ok (.putfield 22, 3) := by decide +kernel
theorem dX4_init_35 : decode cX4_init 35 = .ok (.aload_n 0, 1) := by decide +kernel
theorem dX4_init_36 : decode cX4_init 36 = .ok (.iconst 0, 1) := by decide +kernel
theorem dX4_init_37 : decode cX4_init 37 = .ok (.putfield 26, 3) := by decide +kernel
theorem dX4_init_40 : decode cX4_init 40 = .ok (.aload_n 0, 1) := by decide +kernel
theorem dX4_init_41 : decode cX4_init 41 = .ok (.iconst 0, 1) := by decide +kernel
theorem dX4_init_42 : decode cX4_init 42 = .ok (.putfield 29, 3) := by decide +kernel
theorem dX4_init_45 : decode cX4_init 45 = .ok (.return_, 1) := by decide +kernel
theorem dX4_empty_0 : decode cX4_empty 0 = .ok (.aload_n 0, 1) := by decide +kernel
theorem dX4_empty_1 : decode cX4_empty 1 = .ok (.getfield 15, 3) := by decide +kernel
theorem dX4_empty_4 : decode cX4_empty 4 = .ok (.iconst 0, 1) := by decide +kernel
theorem dX4_empty_5 : decode cX4_empty 5 = .ok (.invokestatic 32, 3) := by decide +kernel
theorem dX4_empty_8 : decode cX4_empty 8 = .ok (.aload_n 0, 1) := by decide +kernel
theorem dX4_empty_9 : decode cX4_empty 9 = .ok (.iconst 0, 1) := by decide +kernel
theorem dX4_empty_10 : decode cX4_empty 10 = .ok (.putfield 29, 3) := by decide +kernel
theorem dX4_empty_13 : decode cX4_empty 13 = .ok (.return_, 1) := by decide +kernel
theorem dX4_find_0 : decode cX4_find 0 = .ok (.aload_n 0, 1) := by decide +kernel
theorem dX4_find_1 : decode cX4_find 1 = .ok (.aload_n 1, 1) := by decide +kernel
theorem dX4_find_2 : decode cX4_find 2 = .ok (.invokevirtual 38, 3) := by decide +kernel
theorem dX4_find_5 : decode cX4_find 5 = .ok (.aload_n 0, 1) := by decide +kernel
theorem dX4_find_6 : decode cX4_find 6 = .ok (.invokevirtual 42, 3) := by decide +kernel
theorem dX4_find_9 : decode cX4_find 9 = .ok (.istore_n 2, 1) := by decide +kernel
theorem dX4_find_10 : decode cX4_find 10 = .ok (.iconst 0, 1) := by decide +kernel
theorem dX4_find_11 : decode cX4_find 11 = .ok (.istore_n 3, 1) := by decide +kernel
theorem dX4_find_12 : decode cX4_find 12 = .ok (.iload_n 3, 1) := by decide +kernel
theorem dX4_find_13 : decode cX4_find 13 = .ok (.sipush 1024, 3) := by decide +kernel
theorem dX4_find_16 : decode cX4_find 16 = .ok (.if_icmp .ge 50, 3) := by decide +kernel
theorem dX4_find_19 : decode cX4_find 19 = .ok (.aload_n 0, 1) := by decide +kernel
theorem dX4_find_20 : decode cX4_find 20 = .ok (.getfield 15, 3) := by decide +kernel
theorem dX4_find_23 : decode cX4_find 23 = .ok (.iload_n 2, 1) := by decide +kernel
theorem dX4_find_24 : decode cX4_find 24 = .ok (.iaload, 1) := by decide +kernel
theorem dX4_find_25 : decode cX4_find 25 = .ok (.ifCond .eq 41, 3) := by decide +kernel
theorem dX4_find_28 : decode cX4_find 28 = .ok (.aload_n 0, 1) := by decide +kernel
theorem dX4_find_29 : decode cX4_find 29 = .ok (.aload_n 0, 1) := by decide +kernel
theorem dX4_find_30 : decode cX4_find 30 = .ok (.getfield 15, 3) := by decide +kernel
theorem dX4_find_33 : decode cX4_find 33 = .ok (.iload_n 2, 1) := by decide +kernel
theorem dX4_find_34 : decode cX4_find 34 = .ok (.iaload, 1) := by decide +kernel
theorem dX4_find_35 : decode cX4_find 35 = .ok (.iconst 1, 1) := by decide +kernel
theorem dX4_find_36 : decode cX4_find 36 = .ok (.isub, 1) := by decide +kernel
theorem dX4_find_37 : decode cX4_find 37 = .ok (.invokevirtual 46, 3) := by decide +kernel
theorem dX4_find_40 : decode cX4_find 40 = .ok (.ifCond .eq 12, 3) := by decide +kernel
theorem dX4_find_43 : decode cX4_find 43 = .ok (.aload_n 0, 1) := by decide +kernel
theorem dX4_find_44 : decode cX4_find 44 = .ok (.getfield 15, 3) := by decide +kernel
theorem dX4_find_47 : decode cX4_find 47 = .ok (.iload_n 2, 1) := by decide +kernel
theorem dX4_find_48 : decode cX4_find 48 = .ok (.iaload, 1) := by decide +kernel
theorem dX4_find_49 : decode cX4_find 49 = .ok (.iconst 1, 1) := by decide +kernel
theorem dX4_find_50 : decode cX4_find 50 = .ok (.isub, 1) := by decide +kernel
theorem dX4_find_51 : decode cX4_find 51 = .ok (.ireturn, 1) := by decide +kernel
theorem dX4_find_52 : decode cX4_find 52 = .ok (.iload_n 2, 1) := by decide +kernel
theorem dX4_find_53 : decode cX4_find 53 = .ok (.iconst 1, 1) := by decide +kernel
theorem dX4_find_54 : decode cX4_find 54 = .ok (.iadd, 1) := by decide +kernel
theorem dX4_find_55 : decode cX4_find 55 = .ok (.sipush 1023, 3) := by decide +kernel
theorem dX4_find_58 : decode cX4_find 58 = .ok (.iand, 1) := by decide +kernel
theorem dX4_find_59 : decode cX4_find 59 = .ok (.istore_n 2, 1) := by decide +kernel
theorem dX4_find_60 : decode cX4_find 60 = .ok (.iinc 3 1, 3) := by decide +kernel
theorem dX4_find_63 : decode cX4_find 63 = .ok (.goto (-51), 3) := by decide +kernel
theorem dX4_find_66 : decode cX4_find 66 = .ok (.aload_n 0, 1) := by decide +kernel
theorem dX4_find_67 : decode cX4_find 67 = .ok (.iload_n 2, 1) := by decide +kernel
theorem dX4_find_68 : decode cX4_find 68 = .ok (.putfield 22, 3) := by decide +kernel
theorem dX4_find_71 : decode cX4_find 71 = .ok (.iconst (-1), 1) := by decide +kernel
theorem dX4_find_72 : decode cX4_find 72 = .ok (.ireturn, 1) := by decide +kernel
theorem dX4_addAsked_0 : decode cX4_addAsked 0 = .ok (.aload_n 0, 1) := by decide +kernel
theorem dX4_addAsked_1 : decode cX4_addAsked 1 = .ok (.getfield 29, 3) := by decide +kernel
theorem dX4_addAsked_4 : decode cX4_addAsked 4 = .ok (.iconst 1, 1) := by decide +kernel
theorem dX4_addAsked_5 : decode cX4_addAsked 5 = .ok (.iadd, 1) := by decide +kernel
theorem dX4_addAsked_6 : decode cX4_addAsked 6 = .ok (.aload_n 0, 1) := by decide +kernel
theorem dX4_addAsked_7 : decode cX4_addAsked 7 = .ok (.getfield 26, 3) := by decide +kernel
theorem dX4_addAsked_10 : decode cX4_addAsked 10 = .ok (.imul, 1) := by decide +kernel
theorem dX4_addAsked_11 : decode cX4_addAsked 11 = .ok (.aload_n 0, 1) := by decide +kernel
theorem dX4_addAsked_12 : decode cX4_addAsked 12 = .ok (.getfield 9, 3) := by decide +kernel
theorem dX4_addAsked_15 : decode cX4_addAsked 15 = .ok (.arraylength, 1) := by decide +kernel
theorem dX4_addAsked_16 : decode cX4_addAsked 16 = .ok (.if_icmp .gt 51, 3) := by decide +kernel
theorem dX4_addAsked_19 : decode cX4_addAsked 19 = .ok (.aload_n 0, 1) := by decide +kernel
theorem dX4_addAsked_20 : decode cX4_addAsked 20 = .ok (.getfield 19, 3) := by decide +kernel
theorem dX4_addAsked_23 : decode cX4_addAsked 23 = .ok (.iconst 0, 1) := by decide +kernel
theorem dX4_addAsked_24 : decode cX4_addAsked 24 = .ok (.aload_n 0, 1) := by decide +kernel
theorem dX4_addAsked_25 : decode cX4_addAsked 25 = .ok (.getfield 9, 3) := by decide +kernel
theorem dX4_addAsked_28 : decode cX4_addAsked 28 = .ok (.aload_n 0, 1) := by decide +kernel
theorem dX4_addAsked_29 : decode cX4_addAsked 29 = .ok (.getfield 29, 3) := by decide +kernel
theorem dX4_addAsked_32 : decode cX4_addAsked 32 = .ok (.aload_n 0, 1) := by decide +kernel
theorem dX4_addAsked_33 : decode cX4_addAsked 33 = .ok (.getfield 26, 3) := by decide +kernel
theorem dX4_addAsked_36 : decode cX4_addAsked 36 = .ok (.imul, 1) := by decide +kernel
theorem dX4_addAsked_37 : decode cX4_addAsked 37 = .ok (.aload_n 0, 1) := by decide +kernel
theorem dX4_addAsked_38 : decode cX4_addAsked 38 = .ok (.getfield 26, 3) := by decide +kernel
theorem dX4_addAsked_41 : decode cX4_addAsked 41 = .ok (.invokestatic 50, 3) := by decide +kernel
theorem dX4_addAsked_44 : decode cX4_addAsked 44 = .ok (.aload_n 0, 1) := by decide +kernel
theorem dX4_addAsked_45 : decode cX4_addAsked 45 = .ok (.dup, 1) := by decide +kernel
theorem dX4_addAsked_46 : decode cX4_addAsked 46 = .ok (.getfield 29, 3) := by decide +kernel
theorem dX4_addAsked_49 : decode cX4_addAsked 49 = .ok (.iconst 1, 1) := by decide +kernel
theorem dX4_addAsked_50 : decode cX4_addAsked 50 = .ok (.iadd, 1) := by decide +kernel
theorem dX4_addAsked_51 : decode cX4_addAsked 51 = .ok (.putfield 29, 3) := by decide +kernel
theorem dX4_addAsked_54 : decode cX4_addAsked 54 = .ok (.aload_n 0, 1) := by decide +kernel
theorem dX4_addAsked_55 : decode cX4_addAsked 55 = .ok (.getfield 15, 3) := by decide +kernel
theorem dX4_addAsked_58 : decode cX4_addAsked 58 = .ok (.aload_n 0, 1) := by decide +kernel
theorem dX4_addAsked_59 : decode cX4_addAsked 59 = .ok (.getfield 22, 3) := by decide +kernel
theorem dX4_addAsked_62 : decode cX4_addAsked 62 = .ok (.aload_n 0, 1) := by decide +kernel
theorem dX4_addAsked_63 : decode cX4_addAsked 63 = .ok (.getfield 29, 3) := by decide +kernel
theorem dX4_addAsked_66 : decode cX4_addAsked 66 = .ok (.iastore, 1) := by decide +kernel
theorem dX4_addAsked_67 : decode cX4_addAsked 67 = .ok (.return_, 1) := by decide +kernel
theorem dX4_restore_0 : decode cX4_restore 0 = .ok (.iconst 0, 1) := by decide +kernel
theorem dX4_restore_1 : decode cX4_restore 1 = .ok (.istore_n 3, 1) := by decide +kernel
theorem dX4_restore_2 : decode cX4_restore 2 = .ok (.iload_n 3, 1) := by decide +kernel
theorem dX4_restore_3 : decode cX4_restore 3 = .ok (.aload_n 2, 1) := by decide +kernel
theorem dX4_restore_4 : decode cX4_restore 4 = .ok (.getfield 56, 3) := by decide +kernel
theorem dX4_restore_7 : decode cX4_restore 7 = .ok (.getfield 62, 3) := by decide +kernel
theorem dX4_restore_10 : decode cX4_restore 10 = .ok (.if_icmp .ge 63, 3) := by decide +kernel
theorem dX4_restore_13 : decode cX4_restore 13 = .ok (.aload_n 2, 1) := by decide +kernel
theorem dX4_restore_14 : decode cX4_restore 14 = .ok (.getfield 67, 3) := by decide +kernel
theorem dX4_restore_17 : decode cX4_restore 17 = .ok (.iload_n 3, 1) := by decide +kernel
theorem dX4_restore_18 : decode cX4_restore 18 = .ok (.bipush 6, 2) := by decide +kernel
theorem dX4_restore_20 : decode cX4_restore 20 = .ok (.imul, 1) := by decide +kernel
theorem dX4_restore_21 : decode cX4_restore 21 = .ok (.iconst 0, 1) := by decide +kernel
theorem dX4_restore_22 : decode cX4_restore 22 = .ok (.iadd, 1) := by decide +kernel
theorem dX4_restore_23 : decode cX4_restore 23 = .ok (.aload_n 0, 1) := by decide +kernel
theorem dX4_restore_24 : decode cX4_restore 24 = .ok (.getfield 9, 3) := by decide +kernel
theorem dX4_restore_27 : decode cX4_restore 27 = .ok (.iload_n 1, 1) := by decide +kernel
theorem dX4_restore_28 : decode cX4_restore 28 = .ok (.aload_n 0, 1) := by decide +kernel
theorem dX4_restore_29 : decode cX4_restore 29 = .ok (.getfield 26, 3) := by decide +kernel
theorem dX4_restore_32 : decode cX4_restore 32 = .ok (.imul, 1) := by decide +kernel
theorem dX4_restore_33 : decode cX4_restore 33 = .ok (.iconst 2, 1) := by decide +kernel
theorem dX4_restore_34 : decode cX4_restore 34 = .ok (.iload_n 3, 1) := by decide +kernel
theorem dX4_restore_35 : decode cX4_restore 35 = .ok (.imul, 1) := by decide +kernel
theorem dX4_restore_36 : decode cX4_restore 36 = .ok (.iadd, 1) := by decide +kernel
theorem dX4_restore_37 : decode cX4_restore 37 = .ok (.laload, 1) := by decide +kernel
theorem dX4_restore_38 : decode cX4_restore 38 = .ok (.lastore, 1) := by decide +kernel
theorem dX4_restore_39 : decode cX4_restore 39 = .ok (.aload_n 2, 1) := by decide +kernel
theorem dX4_restore_40 : decode cX4_restore 40 = .ok (.getfield 67, 3) := by decide +kernel
theorem dX4_restore_43 : decode cX4_restore 43 = .ok (.iload_n 3, 1) := by decide +kernel
theorem dX4_restore_44 : decode cX4_restore 44 = .ok (.bipush 6, 2) := by decide +kernel
theorem dX4_restore_46 : decode cX4_restore 46 = .ok (.imul, 1) := by decide +kernel
theorem dX4_restore_47 : decode cX4_restore 47 = .ok (.iconst 1, 1) := by decide +kernel
theorem dX4_restore_48 : decode cX4_restore 48 = .ok (.iadd, 1) := by decide +kernel
theorem dX4_restore_49 : decode cX4_restore 49 = .ok (.aload_n 0, 1) := by decide +kernel
theorem dX4_restore_50 : decode cX4_restore 50 = .ok (.getfield 9, 3) := by decide +kernel
theorem dX4_restore_53 : decode cX4_restore 53 = .ok (.iload_n 1, 1) := by decide +kernel
theorem dX4_restore_54 : decode cX4_restore 54 = .ok (.aload_n 0, 1) := by decide +kernel
theorem dX4_restore_55 : decode cX4_restore 55 = .ok (.getfield 26, 3) := by decide +kernel
theorem dX4_restore_58 : decode cX4_restore 58 = .ok (.imul, 1) := by decide +kernel
theorem dX4_restore_59 : decode cX4_restore 59 = .ok (.iconst 2, 1) := by decide +kernel
theorem dX4_restore_60 : decode cX4_restore 60 = .ok (.iload_n 3, 1) := by decide +kernel
theorem dX4_restore_61 : decode cX4_restore 61 = .ok (.imul, 1) := by decide +kernel
theorem dX4_restore_62 : decode cX4_restore 62 = .ok (.iadd, 1) := by decide +kernel
theorem dX4_restore_63 : decode cX4_restore 63 = .ok (.iconst 1, 1) := by decide +kernel
theorem dX4_restore_64 : decode cX4_restore 64 = .ok (.iadd, 1) := by decide +kernel
theorem dX4_restore_65 : decode cX4_restore 65 = .ok (.laload, 1) := by decide +kernel
theorem dX4_restore_66 : decode cX4_restore 66 = .ok (.lastore, 1) := by decide +kernel
theorem dX4_restore_67 : decode cX4_restore 67 = .ok (.iinc 3 1, 3) := by decide +kernel
theorem dX4_restore_70 : decode cX4_restore 70 = .ok (.goto (-68), 3) := by decide +kernel
theorem dX4_restore_73 : decode cX4_restore 73 = .ok (.return_, 1) := by decide +kernel
theorem dX4_ask_0 : decode cX4_ask 0 = .ok (.aload_n 1, 1) := by decide +kernel
theorem dX4_ask_1 : decode cX4_ask 1 = .ok (.getfield 56, 3) := by decide +kernel
theorem dX4_ask_4 : decode cX4_ask 4 = .ok (.getfield 62, 3) := by decide +kernel
theorem dX4_ask_7 : decode cX4_ask 7 = .ok (.istore_n 2, 1) := by decide +kernel
theorem dX4_ask_8 : decode cX4_ask 8 = .ok (.iconst 0, 1) := by decide +kernel
theorem dX4_ask_9 : decode cX4_ask 9 = .ok (.istore_n 3, 1) := by decide +kernel
theorem dX4_ask_10 : decode cX4_ask 10 = .ok (.iload_n 3, 1) := by decide +kernel
theorem dX4_ask_11 : decode cX4_ask 11 = .ok (.iload_n 2, 1) := by decide +kernel
theorem dX4_ask_12 : decode cX4_ask 12 = .ok (.if_icmp .ge 49, 3) := by decide +kernel
theorem dX4_ask_15 : decode cX4_ask 15 = .ok (.aload_n 0, 1) := by decide +kernel
theorem dX4_ask_16 : decode cX4_ask 16 = .ok (.getfield 19, 3) := by decide +kernel
theorem dX4_ask_19 : decode cX4_ask 19 = .ok (.iconst 2, 1) := by decide +kernel
theorem dX4_ask_20 : decode cX4_ask 20 = .ok (.iload_n 3, 1) := by decide +kernel
theorem dX4_ask_21 : decode cX4_ask 21 = .ok (.imul, 1) := by decide +kernel
theorem dX4_ask_22 : decode cX4_ask 22 = .ok (.aload_n 1, 1) := by decide +kernel
theorem dX4_ask_23 : decode cX4_ask 23 = .ok (.getfield 67, 3) := by decide +kernel
theorem dX4_ask_26 : decode cX4_ask 26 = .ok (.iload_n 3, 1) := by decide +kernel
theorem dX4_ask_27 : decode cX4_ask 27 = .ok (.bipush 6, 2) := by decide +kernel
theorem dX4_ask_29 : decode cX4_ask 29 = .ok (.imul, 1) := by decide +kernel
theorem dX4_ask_30 : decode cX4_ask 30 = .ok (.iconst 0, 1) := by decide +kernel
theorem dX4_ask_31 : decode cX4_ask 31 = .ok (.iadd, 1) := by decide +kernel
theorem dX4_ask_32 : decode cX4_ask 32 = .ok (.laload, 1) := by decide +kernel
theorem dX4_ask_33 : decode cX4_ask 33 = .ok (.lastore, 1) := by decide +kernel
theorem dX4_ask_34 : decode cX4_ask 34 = .ok (.aload_n 0, 1) := by decide +kernel
theorem dX4_ask_35 : decode cX4_ask 35 = .ok (.getfield 19, 3) := by decide +kernel
theorem dX4_ask_38 : decode cX4_ask 38 = .ok (.iconst 2, 1) := by decide +kernel
theorem dX4_ask_39 : decode cX4_ask 39 = .ok (.iload_n 3, 1) := by decide +kernel
theorem dX4_ask_40 : decode cX4_ask 40 = .ok (.imul, 1) := by decide +kernel
theorem dX4_ask_41 : decode cX4_ask 41 = .ok (.iconst 1, 1) := by decide +kernel
theorem dX4_ask_42 : decode cX4_ask 42 = .ok (.iadd, 1) := by decide +kernel
theorem dX4_ask_43 : decode cX4_ask 43 = .ok (.aload_n 1, 1) := by decide +kernel
theorem dX4_ask_44 : decode cX4_ask 44 = .ok (.getfield 67, 3) := by decide +kernel
theorem dX4_ask_47 : decode cX4_ask 47 = .ok (.iload_n 3, 1) := by decide +kernel
theorem dX4_ask_48 : decode cX4_ask 48 = .ok (.bipush 6, 2) := by decide +kernel
theorem dX4_ask_50 : decode cX4_ask 50 = .ok (.imul, 1) := by decide +kernel
theorem dX4_ask_51 : decode cX4_ask 51 = .ok (.iconst 1, 1) := by decide +kernel
theorem dX4_ask_52 : decode cX4_ask 52 = .ok (.iadd, 1) := by decide +kernel
theorem dX4_ask_53 : decode cX4_ask 53 = .ok (.laload, 1) := by decide +kernel
theorem dX4_ask_54 : decode cX4_ask 54 = .ok (.lastore, 1) := by decide +kernel
theorem dX4_ask_55 : decode cX4_ask 55 = .ok (.iinc 3 1, 3) := by decide +kernel
theorem dX4_ask_58 : decode cX4_ask 58 = .ok (.goto (-48), 3) := by decide +kernel
theorem dX4_ask_61 : decode cX4_ask 61 = .ok (.aload_n 0, 1) := by decide +kernel
theorem dX4_ask_62 : decode cX4_ask 62 = .ok (.iconst 2, 1) := by decide +kernel
theorem dX4_ask_63 : decode cX4_ask 63 = .ok (.iload_n 2, 1) := by decide +kernel
theorem dX4_ask_64 : decode cX4_ask 64 = .ok (.imul, 1) := by decide +kernel
theorem dX4_ask_65 : decode cX4_ask 65 = .ok (.putfield 26, 3) := by decide +kernel
theorem dX4_ask_68 : decode cX4_ask 68 = .ok (.aload_n 1, 1) := by decide +kernel
theorem dX4_ask_69 : decode cX4_ask 69 = .ok (.getfield 56, 3) := by decide +kernel
theorem dX4_ask_72 : decode cX4_ask 72 = .ok (.getfield 70, 3) := by decide +kernel
theorem dX4_ask_75 : decode cX4_ask 75 = .ok (.ifCond .eq 26, 3) := by decide +kernel
theorem dX4_ask_78 : decode cX4_ask 78 = .ok (.aload_n 0, 1) := by decide +kernel
theorem dX4_ask_79 : decode cX4_ask 79 = .ok (.getfield 19, 3) := by decide +kernel
theorem dX4_ask_82 : decode cX4_ask 82 = .ok (.aload_n 0, 1) := by decide +kernel
theorem dX4_ask_83 : decode cX4_ask 83 = .ok (.getfield 26, 3) := by decide +kernel
theorem dX4_ask_86 : decode cX4_ask 86 = .ok (.aload_n 1, 1) := by decide +kernel
theorem dX4_ask_87 : decode cX4_ask 87 = .ok (.getfield 73, 3) := by decide +kernel
theorem dX4_ask_90 : decode cX4_ask 90 = .ok (.lastore, 1) := by decide +kernel
theorem dX4_ask_91 : decode cX4_ask 91 = .ok (.aload_n 0, 1) := by decide +kernel
theorem dX4_ask_92 : decode cX4_ask 92 = .ok (.dup, 1) := by decide +kernel
theorem dX4_ask_93 : decode cX4_ask 93 = .ok (.getfield 26, 3) := by decide +kernel
theorem dX4_ask_96 : decode cX4_ask 96 = .ok (.iconst 1, 1) := by decide +kernel
theorem dX4_ask_97 : decode cX4_ask 97 = .ok (.iadd, 1) := by decide +kernel
theorem dX4_ask_98 : decode cX4_ask 98 = .ok (.putfield 26, 3) := by decide +kernel
theorem dX4_ask_101 : decode cX4_ask 101 = .ok (.return_, 1) := by decide +kernel
theorem dX4_hashOfAsked_0 : decode cX4_hashOfAsked 0 = .ok (.lconst 0, 1) := by decide +kernel
theorem dX4_hashOfAsked_1 : decode cX4_hashOfAsked 1 = .ok (.lstore_n 1, 1) := by decide +kernel
theorem dX4_hashOfAsked_2 : decode cX4_hashOfAsked 2 = .ok (.iconst 0, 1) := by decide +kernel
theorem dX4_hashOfAsked_3 : decode cX4_hashOfAsked 3 = .ok (.istore_n 3, 1) := by decide +kernel
theorem dX4_hashOfAsked_4 : decode cX4_hashOfAsked 4 = .ok (.iload_n 3, 1) := by decide +kernel
theorem dX4_hashOfAsked_5 : decode cX4_hashOfAsked 5 = .ok (.aload_n 0, 1) := by decide +kernel
theorem dX4_hashOfAsked_6 : decode cX4_hashOfAsked 6 = .ok (.getfield 26, 3) := by decide +kernel
theorem dX4_hashOfAsked_9 : decode cX4_hashOfAsked 9 = .ok (.if_icmp .ge 29, 3) := by decide +kernel
theorem dX4_hashOfAsked_12 : decode cX4_hashOfAsked 12 = .ok (.lload_n 1, 1) := by decide +kernel
theorem dX4_hashOfAsked_13 : decode cX4_hashOfAsked 13 = .ok (.aload_n 0, 1) := by decide +kernel
theorem dX4_hashOfAsked_14 : decode cX4_hashOfAsked 14 = .ok (.getfield 19, 3) := by decide +kernel
theorem dX4_hashOfAsked_17 : decode cX4_hashOfAsked 17 = .ok (.iload_n 3, 1) := by decide +kernel
theorem dX4_hashOfAsked_18 : decode cX4_hashOfAsked 18 = .ok (.laload, 1) := by decide +kernel
theorem dX4_hashOfAsked_19 : decode cX4_hashOfAsked 19 = .ok (.lxor, 1) := by decide +kernel
theorem dX4_hashOfAsked_20 : decode cX4_hashOfAsked 20 = .ok (.ldc2_w 77, 3) := by decide +kernel
theorem dX4_hashOfAsked_23 : decode cX4_hashOfAsked 23 = .ok (.lmul, 1) := by decide +kernel
theorem dX4_hashOfAsked_24 : decode cX4_hashOfAsked 24 = .ok (.lstore_n 1, 1) := by decide +kernel
theorem dX4_hashOfAsked_25 : decode cX4_hashOfAsked 25 = .ok (.lload_n 1, 1) := by decide +kernel
theorem dX4_hashOfAsked_26 : decode cX4_hashOfAsked 26 = .ok (.lload_n 1, 1) := by decide +kernel
theorem dX4_hashOfAsked_27 : decode cX4_hashOfAsked 27 = .ok (.bipush 32, 2) := by decide +kernel
theorem dX4_hashOfAsked_29 : decode cX4_hashOfAsked 29 = .ok (.lushr, 1) := by decide +kernel
theorem dX4_hashOfAsked_30 : decode cX4_hashOfAsked 30 = .ok (.lxor, 1) := by decide +kernel
theorem dX4_hashOfAsked_31 : decode cX4_hashOfAsked 31 = .ok (.lstore_n 1, 1) := by decide +kernel
theorem dX4_hashOfAsked_32 : decode cX4_hashOfAsked 32 = .ok (.iinc 3 1, 3) := by decide +kernel
theorem dX4_hashOfAsked_35 : decode cX4_hashOfAsked 35 = .ok (.goto (-31), 3) := by decide +kernel
theorem dX4_hashOfAsked_38 : decode cX4_hashOfAsked 38 = .ok (.lload_n 1, 1) := by decide +kernel
theorem dX4_hashOfAsked_39 : decode cX4_hashOfAsked 39 = .ok (.ldc2_w 79, 3) := by decide +kernel
theorem dX4_hashOfAsked_42 : decode cX4_hashOfAsked 42 = .ok (.land, 1) := by decide +kernel
theorem dX4_hashOfAsked_43 : decode cX4_hashOfAsked 43 = .ok (.l2i, 1) := by decide +kernel
theorem dX4_hashOfAsked_44 : decode cX4_hashOfAsked 44 = .ok (.ireturn, 1) := by decide +kernel
theorem dX4_isAsked_0 : decode cX4_isAsked 0 = .ok (.iconst 0, 1) := by decide +kernel
theorem dX4_isAsked_1 : decode cX4_isAsked 1 = .ok (.istore_n 2, 1) := by decide +kernel
theorem dX4_isAsked_2 : decode cX4_isAsked 2 = .ok (.iload_n 2, 1) := by decide +kernel
theorem dX4_isAsked_3 : decode cX4_isAsked 3 = .ok (.aload_n 0, 1) := by decide +kernel
theorem dX4_isAsked_4 : decode cX4_isAsked 4 = .ok (.getfield 26, 3) := by decide +kernel
theorem dX4_isAsked_7 : decode cX4_isAsked 7 = .ok (.if_icmp .ge 34, 3) := by decide +kernel
theorem dX4_isAsked_10 : decode cX4_isAsked 10 = .ok (.aload_n 0, 1) := by decide +kernel
theorem dX4_isAsked_11 : decode cX4_isAsked 11 = .ok (.getfield 9, 3) := by decide +kernel
theorem dX4_isAsked_14 : decode cX4_isAsked 14 = .ok (.iload_n 1, 1) := by decide +kernel
theorem dX4_isAsked_15 : decode cX4_isAsked 15 = .ok (.aload_n 0, 1) := by decide +kernel
theorem dX4_isAsked_16 : decode cX4_isAsked 16 = .ok (.getfield 26, 3) := by decide +kernel
theorem dX4_isAsked_19 : decode cX4_isAsked 19 = .ok (.imul, 1) := by decide +kernel
theorem dX4_isAsked_20 : decode cX4_isAsked 20 = .ok (.iload_n 2, 1) := by decide +kernel
theorem dX4_isAsked_21 : decode cX4_isAsked 21 = .ok (.iadd, 1) := by decide +kernel
theorem dX4_isAsked_22 : decode cX4_isAsked 22 = .ok (.laload, 1) := by decide +kernel
theorem dX4_isAsked_23 : decode cX4_isAsked 23 = .ok (.aload_n 0, 1) := by decide +kernel
theorem dX4_isAsked_24 : decode cX4_isAsked 24 = .ok (.getfield 19, 3) := by decide +kernel
theorem dX4_isAsked_27 : decode cX4_isAsked 27 = .ok (.iload_n 2, 1) := by decide +kernel
theorem dX4_isAsked_28 : decode cX4_isAsked 28 = .ok (.laload, 1) := by decide +kernel
theorem dX4_isAsked_29 : decode cX4_isAsked 29 = .ok (.lcmp, 1) := by decide +kernel
theorem dX4_isAsked_30 : decode cX4_isAsked 30 = .ok (.ifCond .eq 5, 3) := by decide +kernel
theorem dX4_isAsked_33 : decode cX4_isAsked 33 = .ok (.iconst 0, 1) := by decide +kernel
theorem dX4_isAsked_34 : decode cX4_isAsked 34 = .ok (.ireturn, 1) := by decide +kernel
theorem dX4_isAsked_35 : decode cX4_isAsked 35 = .ok (.iinc 2 1, 3) := by decide +kernel
theorem dX4_isAsked_38 : decode cX4_isAsked 38 = .ok (.goto (-36), 3) := by decide +kernel
theorem dX4_isAsked_41 : decode cX4_isAsked 41 = .ok (.iconst 1, 1) := by decide +kernel
theorem dX4_isAsked_42 : decode cX4_isAsked 42 = .ok (.ireturn, 1) := by decide +kernel
theorem dX5_init_0 : decode cX5_init 0 = .ok (.aload_n 0, 1) := by decide +kernel
theorem dX5_init_1 : decode cX5_init 1 = .ok (.invokespecial 3, 3) := by decide +kernel
theorem dX5_init_4 : decode cX5_init 4 = .ok (.aload_n 0, 1) := by decide +kernel
theorem dX5_init_5 : decode cX5_init 5 = .ok (.iconst 5, 1) := by decide +kernel
theorem dX5_init_6 : decode cX5_init 6 = .ok (.newarray .int, 2) := by decide +kernel
theorem dX5_init_8 : decode cX5_init 8 = .ok (.putfield 9, 3) := by decide +kernel
theorem dX5_init_11 : decode cX5_init 11 = .ok (.aload_n 0, 1) := by decide +kernel
theorem dX5_init_12 : decode cX5_init 12 = .ok (.iconst 5, 1) := by decide +kernel
theorem dX5_init_13 : decode cX5_init 13 = .ok (.newarray .long, 2) := by decide +kernel
theorem dX5_init_15 : decode cX5_init 15 = .ok (.putfield 15, 3) := by decide +kernel
theorem dX5_init_18 : decode cX5_init 18 = .ok (.aload_n 0, 1) := by decide +kernel
theorem dX5_init_19 : decode cX5_init 19 = .ok (.iconst 5, 1) := by decide +kernel
theorem dX5_init_20 : decode cX5_init 20 = .ok (.newarray .int, 2) := by decide +kernel
theorem dX5_init_22 : decode cX5_init 22 = .ok (.putfield 19, 3) := by decide +kernel
theorem dX5_init_25 : decode cX5_init 25 = .ok (.aload_n 0, 1) := by decide +kernel
theorem dX5_init_26 : decode cX5_init 26 = .ok (.bipush 16, 2) := by decide +kernel
theorem dX5_init_28 : decode cX5_init 28 = .ok (.newarray .long, 2) := by decide +kernel
theorem dX5_init_30 : decode cX5_init 30 = .ok (.putfield 22, 3) := by decide +kernel
theorem dX5_init_33 : decode cX5_init 33 = .ok (.aload_n 0, 1) := by decide +kernel
theorem dX5_init_34 : decode cX5_init 34 = .ok (.iconst 0, 1) := by decide +kernel
theorem dX5_init_35 : decode cX5_init 35 = .ok (.putfield 25, 3) := by decide +kernel
theorem dX5_init_38 : decode cX5_init 38 = .ok (.aload_n 0, 1) := by decide +kernel
theorem dX5_init_39 : decode cX5_init 39 = .ok (.iconst 2, 1) := by decide +kernel
theorem dX5_init_40 : decode cX5_init 40 = .ok (.putfield 29, 3) := by decide +kernel
theorem dX5_init_43 : decode cX5_init 43 = .ok (.aload_n 0, 1) := by decide +kernel
theorem dX5_init_44 : decode cX5_init 44 = .ok (.iconst 0, 1) := by decide +kernel
theorem dX5_init_45 : decode cX5_init 45 = .ok (.putfield 32, 3) := by decide +kernel
theorem dX5_init_48 : decode cX5_init 48 = .ok (.aload_n 0, 1) := by decide +kernel
theorem dX5_init_49 : decode cX5_init 49 = .ok (.lconst 0, 1) := by decide +kernel
theorem dX5_init_50 : decode cX5_init 50 = .ok (.putfield 35, 3) := by decide +kernel
theorem dX5_init_53 : decode cX5_init 53 = .ok (.aload_n 0, 1) := by decide +kernel
theorem dX5_init_54 : decode cX5_init 54 = .ok (.getfield 22, 3) := by decide +kernel
theorem dX5_init_57 : decode cX5_init 57 = .ok (.iconst 0, 1) := by decide +kernel
theorem dX5_init_58 : decode cX5_init 58 = .ok (.ldc2_w 39, 3) := by decide +kernel
theorem dX5_init_61 : decode cX5_init 61 = .ok (.lastore, 1) := by decide +kernel
theorem dX5_init_62 : decode cX5_init 62 = .ok (.aload_n 0, 1) := by decide +kernel
theorem dX5_init_63 : decode cX5_init 63 = .ok (.getfield 22, 3) := by decide +kernel
theorem dX5_init_66 : decode cX5_init 66 = .ok (.iconst 1, 1) := by decide +kernel
theorem dX5_init_67 : decode cX5_init 67 = .ok (.lconst 1, 1) := by decide +kernel
theorem dX5_init_68 : decode cX5_init 68 = .ok (.lastore, 1) := by decide +kernel
theorem dX5_init_69 : decode cX5_init 69 = .ok (.return_, 1) := by decide +kernel
theorem dX5_addStage_0 : decode cX5_addStage 0 = .ok (.aload_n 0, 1) := by decide +kernel
theorem dX5_addStage_1 : decode cX5_addStage 1 = .ok (.getfield 9, 3) := by decide +kernel
theorem dX5_addStage_4 : decode cX5_addStage 4 = .ok (.aload_n 0, 1) := by decide +kernel
theorem dX5_addStage_5 : decode cX5_addStage 5 = .ok (.getfield 25, 3) := by decide +kernel
theorem dX5_addStage_8 : decode cX5_addStage 8 = .ok (.iload_n 1, 1) := by decide +kernel
theorem dX5_addStage_9 : decode cX5_addStage 9 = .ok (.iastore, 1) := by decide +kernel
theorem dX5_addStage_10 : decode cX5_addStage 10 = .ok (.aload_n 0, 1) := by decide +kernel
theorem dX5_addStage_11 : decode cX5_addStage 11 = .ok (.getfield 15, 3) := by decide +kernel
theorem dX5_addStage_14 : decode cX5_addStage 14 = .ok (.aload_n 0, 1) := by decide +kernel
theorem dX5_addStage_15 : decode cX5_addStage 15 = .ok (.getfield 25, 3) := by decide +kernel
theorem dX5_addStage_18 : decode cX5_addStage 18 = .ok (.lload_n 2, 1) := by decide +kernel
theorem dX5_addStage_19 : decode cX5_addStage 19 = .ok (.lastore, 1) := by decide +kernel
theorem dX5_addStage_20 : decode cX5_addStage 20 = .ok (.aload_n 0, 1) := by decide +kernel
theorem dX5_addStage_21 : decode cX5_addStage 21 = .ok (.getfield 19, 3) := by decide +kernel
theorem dX5_addStage_24 : decode cX5_addStage 24 = .ok (.aload_n 0, 1) := by decide +kernel
theorem dX5_addStage_25 : decode cX5_addStage 25 = .ok (.getfield 25, 3) := by decide +kernel
theorem dX5_addStage_28 : decode cX5_addStage 28 = .ok (.iload 4, 2) := by decide +kernel
theorem dX5_addStage_30 : decode cX5_addStage 30 = .ok (.iastore, 1) := by decide +kernel
theorem dX5_addStage_31 : decode cX5_addStage 31 = .ok (.aload_n 0, 1) := by decide +kernel
theorem dX5_addStage_32 : decode cX5_addStage 32 = .ok (.dup, 1) := by decide +kernel
theorem dX5_addStage_33 : decode cX5_addStage 33 = .ok (.getfield 25, 3) := by decide +kernel
theorem dX5_addStage_36 : decode cX5_addStage 36 = .ok (.iconst 1, 1) := by decide +kernel
theorem dX5_addStage_37 : decode cX5_addStage 37 = .ok (.iadd, 1) := by decide +kernel
theorem dX5_addStage_38 : decode cX5_addStage 38 = .ok (.putfield 25, 3) := by decide +kernel
theorem dX5_addStage_41 : decode cX5_addStage 41 = .ok (.aload_n 0, 1) := by decide +kernel
theorem dX5_addStage_42 : decode cX5_addStage 42 = .ok (.getfield 25, 3) := by decide +kernel
theorem dX5_addStage_45 : decode cX5_addStage 45 = .ok (.iconst 1, 1) := by decide +kernel
theorem dX5_addStage_46 : decode cX5_addStage 46 = .ok (.isub, 1) := by decide +kernel
theorem dX5_addStage_47 : decode cX5_addStage 47 = .ok (.ireturn, 1) := by decide +kernel
theorem dX5_layLevels_0 : decode cX5_layLevels 0 = .ok (.aload_n 0, 1) := by decide +kernel
theorem dX5_layLevels_1 : decode cX5_layLevels 1 = .ok (.iload_n 1, 1) := by decide +kernel
theorem dX5_layLevels_2 : decode cX5_layLevels 2 = .ok (.putfield 29, 3) := by decide +kernel
theorem dX5_layLevels_5 : decode cX5_layLevels 5 = .ok (.iconst 0, 1) := by decide +kernel
theorem dX5_layLevels_6 : decode cX5_layLevels 6 = .ok (.istore 6, 2) := by decide +kernel
theorem dX5_layLevels_8 : decode cX5_layLevels 8 = .ok (.iload 6, 2) := by decide +kernel
theorem dX5_layLevels_10 : decode cX5_layLevels 10 = .ok (.iload_n 1, 1) := by decide +kernel
theorem dX5_layLevels_11 : decode cX5_layLevels 11 = .ok (.if_icmp .ge 24, 3) := by decide +kernel
theorem dX5_layLevels_14 : decode cX5_layLevels 14 = .ok (.aload_n 0, 1) := by decide +kernel
theorem dX5_layLevels_15 : decode cX5_layLevels 15 = .ok (.getfield 22, 3) := by decide +kernel
theorem dX5_layLevels_18 : decode cX5_layLevels 18 = .ok (.iload 6, 2) := by decide +kernel
theorem dX5_layLevels_20 : decode cX5_layLevels 20 = .ok (.lload_n 2, 1) := by decide +kernel
theorem dX5_layLevels_21 : decode cX5_layLevels 21 = .ok (.iload 6, 2) := by decide +kernel
theorem dX5_layLevels_23 : decode cX5_layLevels 23 = .ok (.i2l, 1) := by decide +kernel
theorem dX5_layLevels_24 : decode cX5_layLevels 24 = .ok (.lload 4, 2) := by decide +kernel
theorem dX5_layLevels_26 : decode cX5_layLevels 26 = .ok (.lmul, 1) := by decide +kernel
theorem dX5_layLevels_27 : decode cX5_layLevels 27 = .ok (.ladd, 1) := by decide +kernel
theorem dX5_layLevels_28 : decode cX5_layLevels 28 = .ok (.lastore, 1) := by decide +kernel
theorem dX5_layLevels_29 : decode cX5_layLevels 29 = .ok (.iinc 6 1, 3) := by decide +kernel
theorem dX5_layLevels_32 : decode cX5_layLevels 32 = .ok (.goto (-24), 3) := by decide +kernel
theorem dX5_layLevels_35 : decode cX5_layLevels 35 = .ok (.return_, 1) := by decide +kernel
theorem dX5_hasStage_0 : decode cX5_hasStage 0 = .ok (.iload_n 1, 1) := by decide +kernel
theorem dX5_hasStage_1 : decode cX5_hasStage 1 = .ok (.ifCond .lt 15, 3) := by decide +kernel
theorem dX5_hasStage_4 : decode cX5_hasStage 4 = .ok (.iload_n 1, 1) := by decide +kernel
theorem dX5_hasStage_5 : decode cX5_hasStage 5 = .ok (.aload_n 0, 1) := by decide +kernel
theorem dX5_hasStage_6 : decode cX5_hasStage 6 = .ok (.getfield 25, 3) := by decide +kernel
theorem dX5_hasStage_9 : decode cX5_hasStage 9 = .ok (.if_icmp .ge 7, 3) := by decide +kernel
theorem dX5_hasStage_12 : decode cX5_hasStage 12 = .ok (.iconst 1, 1) := by decide +kernel
theorem dX5_hasStage_13 : decode cX5_hasStage 13 = .ok (.goto 4, 3) := by decide +kernel
theorem dX5_hasStage_16 : decode cX5_hasStage 16 = .ok (.iconst 0, 1) := by decide +kernel
theorem dX5_hasStage_17 : decode cX5_hasStage 17 = .ok (.ireturn, 1) := by decide +kernel
theorem dX5_hasLevel_0 : decode cX5_hasLevel 0 = .ok (.iload_n 1, 1) := by decide +kernel
theorem dX5_hasLevel_1 : decode cX5_hasLevel 1 = .ok (.ifCond .lt 15, 3) := by decide +kernel
theorem dX5_hasLevel_4 : decode cX5_hasLevel 4 = .ok (.iload_n 1, 1) := by decide +kernel
theorem dX5_hasLevel_5 : decode cX5_hasLevel 5 = .ok (.aload_n 0, 1) := by decide +kernel
theorem dX5_hasLevel_6 : decode cX5_hasLevel 6 = .ok (.getfield 29, 3) := by decide +kernel
theorem dX5_hasLevel_9 : decode cX5_hasLevel 9 = .ok (.if_icmp .ge 7, 3) := by decide +kernel
theorem dX5_hasLevel_12 : decode cX5_hasLevel 12 = .ok (.iconst 1, 1) := by decide +kernel
theorem dX5_hasLevel_13 : decode cX5_hasLevel 13 = .ok (.goto 4, 3) := by decide +kernel
theorem dX5_hasLevel_16 : decode cX5_hasLevel 16 = .ok (.iconst 0, 1) := by decide +kernel
theorem dX5_hasLevel_17 : decode cX5_hasLevel 17 = .ok (.ireturn, 1) := by decide +kernel
theorem dX5_wouldRise_0 : decode cX5_wouldRise 0 = .ok (.iload_n 1, 1) := by decide +kernel
theorem dX5_wouldRise_1 : decode cX5_wouldRise 1 = .ok (.ifCond .eq 16, 3) := by decide +kernel
theorem dX5_wouldRise_4 : decode cX5_wouldRise 4 = .ok (.aload_n 0, 1) := by decide +kernel
theorem dX5_wouldRise_5 : decode cX5_wouldRise 5 = .ok (.getfield 22, 3) := by decide +kernel
theorem dX5_wouldRise_8 : decode cX5_wouldRise 8 = .ok (.iload_n 1, 1) := by decide +kernel
theorem dX5_wouldRise_9 : decode cX5_wouldRise 9 = .ok (.iconst 1, 1) := by decide +kernel
theorem dX5_wouldRise_10 : decode cX5_wouldRise 10 = .ok (.isub, 1) := by decide +kernel
theorem dX5_wouldRise_11 : decode cX5_wouldRise 11 = .ok (.laload, 1) := by decide +kernel
theorem dX5_wouldRise_12 : decode cX5_wouldRise 12 = .ok (.lload_n 2, 1) := by decide +kernel
theorem dX5_wouldRise_13 : decode cX5_wouldRise 13 = .ok (.lcmp, 1) := by decide +kernel
theorem dX5_wouldRise_14 : decode cX5_wouldRise 14 = .ok (.ifCond .ge 30, 3) := by decide +kernel
theorem dX5_wouldRise_17 : decode cX5_wouldRise 17 = .ok (.iload_n 1, 1) := by decide +kernel
theorem dX5_wouldRise_18 : decode cX5_wouldRise 18 = .ok (.aload_n 0, 1) := by decide +kernel
theorem dX5_wouldRise_19 : decode cX5_wouldRise 19 = .ok (.getfield 29, 3) := by decide +kernel
theorem dX5_wouldRise_22 : decode cX5_wouldRise 22 = .ok (.iconst 1, 1) := by decide +kernel
theorem dX5_wouldRise_23 : decode cX5_wouldRise 23 = .ok (.isub, 1) := by decide +kernel
theorem dX5_wouldRise_24 : decode cX5_wouldRise 24 = .ok (.if_icmp .eq 16, 3) := by decide +kernel
theorem dX5_wouldRise_27 : decode cX5_wouldRise 27 = .ok (.lload_n 2, 1) := by decide +kernel
theorem dX5_wouldRise_28 : decode cX5_wouldRise 28 = .ok (.aload_n 0, 1) := by decide +kernel
theorem dX5_wouldRise_29 : decode cX5_wouldRise 29 = .ok (.getfield 22, 3) := by decide +kernel
theorem dX5_wouldRise_32 : decode cX5_wouldRise 32 = .ok (.iload_n 1, 1) := by decide +kernel
theorem dX5_wouldRise_33 : decode cX5_wouldRise 33 = .ok (.iconst 1, 1) := by decide +kernel
theorem dX5_wouldRise_34 : decode cX5_wouldRise 34 = .ok (.iadd, 1) := by decide +kernel
theorem dX5_wouldRise_35 : decode cX5_wouldRise 35 = .ok (.laload, 1) := by decide +kernel
theorem dX5_wouldRise_36 : decode cX5_wouldRise 36 = .ok (.lcmp, 1) := by decide +kernel
theorem dX5_wouldRise_37 : decode cX5_wouldRise 37 = .ok (.ifCond .ge 7, 3) := by decide +kernel
theorem dX5_wouldRise_40 : decode cX5_wouldRise 40 = .ok (.iconst 1, 1) := by decide +kernel
theorem dX5_wouldRise_41 : decode cX5_wouldRise 41 = .ok (.goto 4, 3) := by decide +kernel
theorem dX5_wouldRise_44 : decode cX5_wouldRise 44 = .ok (.iconst 0, 1) := by decide +kernel
theorem dX5_wouldRise_45 : decode cX5_wouldRise 45 = .ok (.ireturn, 1) := by decide +kernel
theorem dX5_nearestTo_0 : decode cX5_nearestTo 0 = .ok (.iconst 0, 1) := by decide +kernel
theorem dX5_nearestTo_1 : decode cX5_nearestTo 1 = .ok (.istore_n 3, 1) := by decide +kernel
theorem dX5_nearestTo_2 : decode cX5_nearestTo 2 = .ok (.iload_n 3, 1) := by decide +kernel
theorem dX5_nearestTo_3 : decode cX5_nearestTo 3 = .ok (.aload_n 0, 1) := by decide +kernel
theorem dX5_nearestTo_4 : decode cX5_nearestTo 4 = .ok (.getfield 29, 3) := by decide +kernel
theorem dX5_nearestTo_7 : decode cX5_nearestTo 7 = .ok (.iconst 1, 1) := by decide +kernel
theorem dX5_nearestTo_8 : decode cX5_nearestTo 8 = .ok (.isub, 1) := by decide +kernel
theorem dX5_nearestTo_9 : decode cX5_nearestTo 9 = .ok (.if_icmp .ge 37, 3) := by decide +kernel
theorem dX5_nearestTo_12 : decode cX5_nearestTo 12 = .ok (.aload_n 0, 1) := by decide +kernel
theorem dX5_nearestTo_13 : decode cX5_nearestTo 13 = .ok (.getfield 22, 3) := by decide +kernel
theorem dX5_nearestTo_16 : decode cX5_nearestTo 16 = .ok (.iload_n 3, 1) := by decide +kernel
theorem dX5_nearestTo_17 : decode cX5_nearestTo 17 = .ok (.iconst 1, 1) := by decide +kernel
theorem dX5_nearestTo_18 : decode cX5_nearestTo 18 = .ok (.iadd, 1) := by decide +kernel
theorem dX5_nearestTo_19 : decode cX5_nearestTo 19 = .ok (.laload, 1) := by decide +kernel
theorem dX5_nearestTo_20 : decode cX5_nearestTo 20 = .ok (.lload_n 1, 1) := by decide +kernel
theorem dX5_nearestTo_21 : decode cX5_nearestTo 21 = .ok (.lsub, 1) := by decide +kernel
theorem dX5_nearestTo_22 : decode cX5_nearestTo 22 = .ok (.invokestatic 41, 3) := by decide +kernel
theorem dX5_nearestTo_25 : decode cX5_nearestTo 25 = .ok (.aload_n 0, 1) := by decide +kernel
theorem dX5_nearestTo_26 : decode cX5_nearestTo 26 = .ok (.getfield 22, 3) := by decide +kernel
theorem dX5_nearestTo_29 : decode cX5_nearestTo 29 = .ok (.iload_n 3, 1) := by decide +kernel
theorem dX5_nearestTo_30 : decode cX5_nearestTo 30 = .ok (.laload, 1) := by decide +kernel
theorem dX5_nearestTo_31 : decode cX5_nearestTo 31 = .ok (.lload_n 1, 1) := by decide +kernel
theorem dX5_nearestTo_32 : decode cX5_nearestTo 32 = .ok (.lsub, 1) := by decide +kernel
theorem dX5_nearestTo_33 : decode cX5_nearestTo 33 = .ok (.invokestatic 41, 3) := by decide +kernel
theorem dX5_nearestTo_36 : decode cX5_nearestTo 36 = .ok (.lcmp, 1) := by decide +kernel
theorem dX5_nearestTo_37 : decode cX5_nearestTo 37 = .ok (.ifCond .gt 9, 3) := by decide +kernel
theorem dX5_nearestTo_40 : decode cX5_nearestTo 40 = .ok (.iinc 3 1, 3) := by decide +kernel
theorem dX5_nearestTo_43 : decode cX5_nearestTo 43 = .ok (.goto (-41), 3) := by decide +kernel
theorem dX5_nearestTo_46 : decode cX5_nearestTo 46 = .ok (.iload_n 3, 1) := by decide +kernel
theorem dX5_nearestTo_47 : decode cX5_nearestTo 47 = .ok (.ireturn, 1) := by decide +kernel
theorem dX6_init_0 : decode cX6_init 0 = .ok (.aload_n 0, 1) := by decide +kernel
theorem dX6_init_1 : decode cX6_init 1 = .ok (.invokespecial 3, 3) := by decide +kernel
theorem dX6_init_4 : decode cX6_init 4 = .ok (.aload_n 0, 1) := by decide +kernel
theorem dX6_init_5 : decode cX6_init 5 = .ok (.bipush 30, 2) := by decide +kernel
theorem dX6_init_7 : decode cX6_init 7 = .ok (.newarray .long, 2) := by decide +kernel
theorem dX6_init_9 : decode cX6_init 9 = .ok (.putfield 9, 3) := by decide +kernel
theorem dX6_init_12 : decode cX6_init 12 = .ok (.aload_n 0, 1) := by decide +kernel
theorem dX6_init_13 : decode cX6_init 13 = .ok (.bipush 15, 2) := by decide +kernel
theorem dX6_init_15 : decode cX6_init 15 = .ok (.newarray .int, 2) := by decide +kernel
theorem dX6_init_17 : decode cX6_init 17 = .ok (.putfield 15, 3) := by decide +kernel
theorem dX6_init_20 : decode cX6_init 20 = .ok (.aload_n 0, 1) := by decide +kernel
theorem dX6_init_21 : decode cX6_init 21 = .ok (.iconst 0, 1) := by decide +kernel
theorem dX6_init_22 : decode cX6_init 22 = .ok (.putfield 19, 3) := by decide +kernel
theorem dX6_init_25 : decode cX6_init 25 = .ok (.aload_n 0, 1) := by decide +kernel
theorem dX6_init_26 : decode cX6_init 26 = .ok (.lconst 0, 1) := by decide +kernel
theorem dX6_init_27 : decode cX6_init 27 = .ok (.putfield 23, 3) := by decide +kernel
theorem dX6_init_30 : decode cX6_init 30 = .ok (.aload_n 0, 1) := by decide +kernel
theorem dX6_init_31 : decode cX6_init 31 = .ok (.iconst 0, 1) := by decide +kernel
theorem dX6_init_32 : decode cX6_init 32 = .ok (.putfield 27, 3) := by decide +kernel
theorem dX6_init_35 : decode cX6_init 35 = .ok (.aload_n 0, 1) := by decide +kernel
theorem dX6_init_36 : decode cX6_init 36 = .ok (.aload_n 1, 1) := by decide +kernel
theorem dX6_init_37 : decode cX6_init 37 = .ok (.putfield 30, 3) := by decide +kernel
theorem dX6_init_40 : decode cX6_init 40 = .ok (.return_, 1) := by decide +kernel
theorem dX6_beginAgain_0 : decode cX6_beginAgain 0 = .ok (.aload_n 0, 1) := by decide +kernel
theorem dX6_beginAgain_1 : decode cX6_beginAgain 1 = .ok (.getfield 9, 3) := by decide +kernel
theorem dX6_beginAgain_4 : decode cX6_beginAgain 4 = .ok (.lconst 0, 1) := by decide +kernel
theorem dX6_beginAgain_5 : decode cX6_beginAgain 5 = .ok (.invokestatic 34, 3) := by decide +kernel
theorem dX6_beginAgain_8 : decode cX6_beginAgain 8 = .ok (.aload_n 0, 1) := by decide +kernel
theorem dX6_beginAgain_9 : decode cX6_beginAgain 9 = .ok (.aload_n 0, 1) := by decide +kernel
theorem dX6_beginAgain_10 : decode cX6_beginAgain 10 = .ok (.getfield 30, 3) := by decide +kernel
theorem dX6_beginAgain_13 : decode cX6_beginAgain 13 = .ok (.getfield 40, 3) := by decide +kernel
theorem dX6_beginAgain_16 : decode cX6_beginAgain 16 = .ok (.putfield 23, 3) := by decide +kernel
theorem dX6_beginAgain_19 : decode cX6_beginAgain 19 = .ok (.return_, 1) := by decide +kernel
theorem dX6_becomeLike_0 : decode cX6_becomeLike 0 = .ok (.aload_n 1, 1) := by decide +kernel
theorem dX6_becomeLike_1 : decode cX6_becomeLike 1 = .ok (.getfield 9, 3) := by decide +kernel
theorem dX6_becomeLike_4 : decode cX6_becomeLike 4 = .ok (.iconst 0, 1) := by decide +kernel
theorem dX6_becomeLike_5 : decode cX6_becomeLike 5 = .ok (.aload_n 0, 1) := by decide +kernel
theorem dX6_becomeLike_6 : decode cX6_becomeLike 6 = .ok (.getfield 9, 3) := by decide +kernel
theorem dX6_becomeLike_9 : decode cX6_becomeLike 9 = .ok (.iconst 0, 1) := by decide +kernel
theorem dX6_becomeLike_10 : decode cX6_becomeLike 10 = .ok (.aload_n 0, 1) := by decide +kernel
theorem dX6_becomeLike_11 : decode cX6_becomeLike 11 = .ok (.getfield 9, 3) := by decide +kernel
theorem dX6_becomeLike_14 : decode cX6_becomeLike 14 = .ok (.arraylength, 1) := by decide +kernel
theorem dX6_becomeLike_15 : decode cX6_becomeLike 15 = .ok (.invokestatic 45, 3) := by decide +kernel
theorem dX6_becomeLike_18 : decode cX6_becomeLike 18 = .ok (.aload_n 0, 1) := by decide +kernel
theorem dX6_becomeLike_19 : decode cX6_becomeLike 19 = .ok (.aload_n 1, 1) := by decide +kernel
theorem dX6_becomeLike_20 : decode cX6_becomeLike 20 = .ok (.getfield 23, 3) := by decide +kernel
theorem dX6_becomeLike_23 : decode cX6_becomeLike 23 = .ok (.putfield 23, 3) := by decide +kernel
theorem dX6_becomeLike_26 : decode cX6_becomeLike 26 = .ok (.return_, 1) := by decide +kernel
theorem dX6_makeStep_0 : decode cX6_makeStep 0 = .ok (.aload_n 0, 1) := by decide +kernel
theorem dX6_makeStep_1 : decode cX6_makeStep 1 = .ok (.iconst 0, 1) := by decide +kernel
theorem dX6_makeStep_2 : decode cX6_makeStep 2 = .ok (.putfield 19, 3) := by decide +kernel
theorem dX6_makeStep_5 : decode cX6_makeStep 5 = .ok (.aload_n 0, 1) := by decide +kernel
theorem dX6_makeStep_6 : decode cX6_makeStep 6 = .ok (.invokevirtual 51, 3) := by decide +kernel
theorem dX6_makeStep_9 : decode cX6_makeStep 9 = .ok (.lstore_n 3, 1) := by decide +kernel
theorem dX6_makeStep_10 : decode cX6_makeStep 10 = .ok (.aload_n 0, 1) := by decide +kernel
theorem dX6_makeStep_11 : decode cX6_makeStep 11 = .ok (.getfield 30, 3) := by decide +kernel
theorem dX6_makeStep_14 : decode cX6_makeStep 14 = .ok (.getfield 55, 3) := by decide +kernel
theorem dX6_makeStep_17 : decode cX6_makeStep 17 = .ok (.ifCond .ne 7, 3) := by decide +kernel
theorem dX6_makeStep_20 : decode cX6_makeStep 20 = .ok (.lload_n 1, 1) := by decide +kernel
theorem dX6_makeStep_21 : decode cX6_makeStep 21 = .ok (.goto 22, 3) := by decide +kernel
theorem dX6_makeStep_24 : decode cX6_makeStep 24 = .ok (.aload_n 0, 1) := by decide +kernel
theorem dX6_makeStep_25 : decode cX6_makeStep 25 = .ok (.getfield 9, 3) := by decide +kernel
theorem dX6_makeStep_28 : decode cX6_makeStep 28 = .ok (.aload_n 0, 1) := by decide +kernel
theorem dX6_makeStep_29 : decode cX6_makeStep 29 = .ok (.getfield 30, 3) := by decide +kernel
theorem dX6_makeStep_32 : decode cX6_makeStep 32 = .ok (.getfield 55, 3) := by decide +kernel
theorem dX6_makeStep_35 : decode cX6_makeStep 35 = .ok (.iconst 1, 1) := by decide +kernel
theorem dX6_makeStep_36 : decode cX6_makeStep 36 = .ok (.isub, 1) := by decide +kernel
theorem dX6_makeStep_37 : decode cX6_makeStep 37 = .ok (.bipush 6, 2) := by decide +kernel
theorem dX6_makeStep_39 : decode cX6_makeStep 39 = .ok (.imul, 1) := by decide +kernel
theorem dX6_makeStep_40 : decode cX6_makeStep 40 = .ok (.iconst 0, 1) := by decide +kernel
theorem dX6_makeStep_41 : decode cX6_makeStep 41 = .ok (.iadd, 1) := by decide +kernel
theorem dX6_makeStep_42 : decode cX6_makeStep 42 = .ok (.laload, 1) := by decide +kernel
theorem dX6_makeStep_43 : decode cX6_makeStep 43 = .ok (.lstore 5, 2) := by decide +kernel
theorem dX6_makeStep_45 : decode cX6_makeStep 45 = .ok (.aload_n 0, 1) := by decide +kernel
theorem dX6_makeStep_46 : decode cX6_makeStep 46 = .ok (.aload_n 0, 1) := by decide +kernel
theorem dX6_makeStep_47 : decode cX6_makeStep 47 = .ok (.getfield 30, 3) := by decide +kernel
theorem dX6_makeStep_50 : decode cX6_makeStep 50 = .ok (.lload 5, 2) := by decide +kernel
theorem dX6_makeStep_52 : decode cX6_makeStep 52 = .ok (.lload_n 3, 1) := by decide +kernel
theorem dX6_makeStep_53 : decode cX6_makeStep 53 = .ok (.ladd, 1) := by decide +kernel
theorem dX6_makeStep_54 : decode cX6_makeStep 54 = .ok (.invokevirtual 58, 3) := by decide +kernel
theorem dX6_makeStep_57 : decode cX6_makeStep 57 = .ok (.putfield 27, 3) := by decide +kernel
theorem dX6_makeStep_60 : decode cX6_makeStep 60 = .ok (.aload_n 0, 1) := by decide +kernel
theorem dX6_makeStep_61 : decode cX6_makeStep 61 = .ok (.getfield 30, 3) := by decide +kernel
theorem dX6_makeStep_64 : decode cX6_makeStep 64 = .ok (.getfield 62, 3) := by decide +kernel
theorem dX6_makeStep_67 : decode cX6_makeStep 67 = .ok (.aload_n 0, 1) := by decide +kernel
theorem dX6_makeStep_68 : decode cX6_makeStep 68 = .ok (.getfield 27, 3) := by decide +kernel
theorem dX6_makeStep_71 : decode cX6_makeStep 71 = .ok (.laload, 1) := by decide +kernel
theorem dX6_makeStep_72 : decode cX6_makeStep 72 = .ok (.lstore 7, 2) := by decide +kernel
theorem dX6_makeStep_74 : decode cX6_makeStep 74 = .ok (.lload_n 1, 1) := by decide +kernel
theorem dX6_makeStep_75 : decode cX6_makeStep 75 = .ok (.lstore 9, 2) := by decide +kernel
theorem dX6_makeStep_77 : decode cX6_makeStep 77 = .ok (.iconst 0, 1) := by decide +kernel
theorem dX6_makeStep_78 : decode cX6_makeStep 78 = .ok (.istore 11, 2) := by decide +kernel
theorem dX6_makeStep_80 : decode cX6_makeStep 80 = .ok (.iload 11, 2) := by decide +kernel
theorem dX6_makeStep_82 : decode cX6_makeStep 82 = .ok (.aload_n 0, 1) := by decide +kernel
theorem dX6_makeStep_83 : decode cX6_makeStep 83 = .ok (.getfield 30, 3) := by decide +kernel
theorem dX6_makeStep_86 : decode cX6_makeStep 86 = .ok (.getfield 55, 3) := by decide +kernel
theorem dX6_makeStep_89 : decode cX6_makeStep 89 = .ok (.if_icmp .ge 62, 3) := by decide +kernel
theorem dX6_makeStep_92 : decode cX6_makeStep 92 = .ok (.aload_n 0, 1) := by decide +kernel
theorem dX6_makeStep_93 : decode cX6_makeStep 93 = .ok (.iload 11, 2) := by decide +kernel
theorem dX6_makeStep_95 : decode cX6_makeStep 95 = .ok (.lload 9, 2) := by decide +kernel
theorem dX6_makeStep_97 : decode cX6_makeStep 97 = .ok (.lload 7, 2) := by decide +kernel
theorem dX6_makeStep_99 : decode cX6_makeStep 99 = .ok (.lload_n 1, 1) := by decide +kernel
theorem dX6_makeStep_100 : decode cX6_makeStep 100 = .ok (.invokevirtual 65, 3) := by decide +kernel
theorem dX6_makeStep_103 : decode cX6_makeStep 103 = .ok (.aload_n 0, 1) := by decide +kernel
theorem dX6_makeStep_104 : decode cX6_makeStep 104 = .ok (.getfield 9, 3) := by decide +kernel
theorem dX6_makeStep_107 : decode cX6_makeStep 107 = .ok (.iload 11, 2) := by decide +kernel
theorem dX6_makeStep_109 : decode cX6_makeStep 109 = .ok (.bipush 6, 2) := by decide +kernel
theorem dX6_makeStep_111 : decode cX6_makeStep 111 = .ok (.imul, 1) := by decide +kernel
theorem dX6_makeStep_112 : decode cX6_makeStep 112 = .ok (.iconst 0, 1) := by decide +kernel
theorem dX6_makeStep_113 : decode cX6_makeStep 113 = .ok (.iadd, 1) := by decide +kernel
theorem dX6_makeStep_114 : decode cX6_makeStep 114 = .ok (.laload, 1) := by decide +kernel
theorem dX6_makeStep_115 : decode cX6_makeStep 115 = .ok (.lstore 9, 2) := by decide +kernel
theorem dX6_makeStep_117 : decode cX6_makeStep 117 = .ok (.lload 9, 2) := by decide +kernel
theorem dX6_makeStep_119 : decode cX6_makeStep 119 = .ok (.invokestatic 69, 3) := by decide +kernel
theorem dX6_makeStep_122 : decode cX6_makeStep 122 = .ok (.ifCond .ne 21, 3) := by decide +kernel
theorem dX6_makeStep_125 : decode cX6_makeStep 125 = .ok (.aload_n 0, 1) := by decide +kernel
theorem dX6_makeStep_126 : decode cX6_makeStep 126 = .ok (.getfield 9, 3) := by decide +kernel
theorem dX6_makeStep_129 : decode cX6_makeStep 129 = .ok (.iload 11, 2) := by decide +kernel
theorem dX6_makeStep_131 : decode cX6_makeStep 131 = .ok (.bipush 6, 2) := by decide +kernel
theorem dX6_makeStep_133 : decode cX6_makeStep 133 = .ok (.imul, 1) := by decide +kernel
theorem dX6_makeStep_134 : decode cX6_makeStep 134 = .ok (.iconst 1, 1) := by decide +kernel
theorem dX6_makeStep_135 : decode cX6_makeStep 135 = .ok (.iadd, 1) := by decide +kernel
theorem dX6_makeStep_136 : decode cX6_makeStep 136 = .ok (.laload, 1) := by decide +kernel
theorem dX6_makeStep_137 : decode cX6_makeStep 137 = .ok (.invokestatic 69, 3) := by decide +kernel
theorem dX6_makeStep_140 : decode cX6_makeStep 140 = .ok (.ifCond .eq 5, 3) := by decide +kernel
theorem dX6_makeStep_143 : decode cX6_makeStep 143 = .ok (.iconst 0, 1) := by decide +kernel
theorem dX6_makeStep_144 : decode cX6_makeStep 144 = .ok (.ireturn, 1) := by decide +kernel
theorem dX6_makeStep_145 : decode cX6_makeStep 145 = .ok (.iinc 11 1, 3) := by decide +kernel
theorem dX6_makeStep_148 : decode cX6_makeStep 148 = .ok (.goto (-68), 3) := by decide +kernel
theorem dX6_makeStep_151 : decode cX6_makeStep 151 = .ok (.iconst 1, 1) := by decide +kernel
theorem dX6_makeStep_152 : decode cX6_makeStep 152 = .ok (.ireturn, 1) := by decide +kernel
theorem dX6_drawLot_0 : decode cX6_drawLot 0 = .ok (.aload_n 0, 1) := by decide +kernel
theorem dX6_drawLot_1 : decode cX6_drawLot 1 = .ok (.getfield 30, 3) := by decide +kernel
theorem dX6_drawLot_4 : decode cX6_drawLot 4 = .ok (.getfield 73, 3) := by decide +kernel
theorem dX6_drawLot_7 : decode cX6_drawLot 7 = .ok (.ifCond .gt 5, 3) := by decide +kernel
theorem dX6_drawLot_10 : decode cX6_drawLot 10 = .ok (.lconst 0, 1) := by decide +kernel
theorem dX6_drawLot_11 : decode cX6_drawLot 11 = .ok (.lreturn, 1) := by decide +kernel
theorem dX6_drawLot_12 : decode cX6_drawLot 12 = .ok (.aload_n 0, 1) := by decide +kernel
theorem dX6_drawLot_13 : decode cX6_drawLot 13 = .ok (.ldc2_w 76, 3) := by decide +kernel
theorem dX6_drawLot_16 : decode cX6_drawLot 16 = .ok (.aload_n 0, 1) := by decide +kernel
theorem dX6_drawLot_17 : decode cX6_drawLot 17 = .ok (.getfield 23, 3) := by decide +kernel
theorem dX6_drawLot_20 : decode cX6_drawLot 20 = .ok (.lmul, 1) := by decide +kernel
theorem dX6_drawLot_21 : decode cX6_drawLot 21 = .ok (.ldc2_w 78, 3) := by decide +kernel
theorem dX6_drawLot_24 : decode cX6_drawLot 24 = .ok (.ladd, 1) := by decide +kernel
theorem dX6_drawLot_25 : decode cX6_drawLot 25 = .ok (.putfield 23, 3) := by decide +kernel
theorem dX6_drawLot_28 : decode cX6_drawLot 28 = .ok (.aload_n 0, 1) := by decide +kernel
theorem dX6_drawLot_29 : decode cX6_drawLot 29 = .ok (.getfield 23, 3) := by decide +kernel
theorem dX6_drawLot_32 : decode cX6_drawLot 32 = .ok (.bipush 33, 2) := by decide +kernel
theorem dX6_drawLot_34 : decode cX6_drawLot 34 = .ok (.lushr, 1) := by decide +kernel
theorem dX6_drawLot_35 : decode cX6_drawLot 35 = .ok (.ldc2_w 80, 3) := by decide +kernel
theorem dX6_drawLot_38 : decode cX6_drawLot 38 = .ok (.aload_n 0, 1) := by decide +kernel
theorem dX6_drawLot_39 : decode cX6_drawLot 39 = .ok (.getfield 30, 3) := by decide +kernel
theorem dX6_drawLot_42 : decode cX6_drawLot 42 = .ok (.getfield 73, 3) := by decide +kernel
theorem dX6_drawLot_45 : decode cX6_drawLot 45 = .ok (.i2l, 1) := by decide +kernel
theorem dX6_drawLot_46 : decode cX6_drawLot 46 = .ok (.lmul, 1) := by decide +kernel
theorem dX6_drawLot_47 : decode cX6_drawLot 47 = .ok (.lconst 1, 1) := by decide +kernel
theorem dX6_drawLot_48 : decode cX6_drawLot 48 = .ok (.ladd, 1) := by decide +kernel
theorem dX6_drawLot_49 : decode cX6_drawLot 49 = .ok (.lrem, 1) := by decide +kernel
theorem dX6_drawLot_50 : decode cX6_drawLot 50 = .ok (.aload_n 0, 1) := by decide +kernel
theorem dX6_drawLot_51 : decode cX6_drawLot 51 = .ok (.getfield 30, 3) := by decide +kernel
theorem dX6_drawLot_54 : decode cX6_drawLot 54 = .ok (.getfield 73, 3) := by decide +kernel
theorem dX6_drawLot_57 : decode cX6_drawLot 57 = .ok (.i2l, 1) := by decide +kernel
theorem dX6_drawLot_58 : decode cX6_drawLot 58 = .ok (.lsub, 1) := by decide +kernel
theorem dX6_drawLot_59 : decode cX6_drawLot 59 = .ok (.lreturn, 1) := by decide +kernel
theorem dX6_takeStage_0 : decode cX6_takeStage 0 = .ok (.aload_n 0, 1) := by decide +kernel
theorem dX6_takeStage_1 : decode cX6_takeStage 1 = .ok (.getfield 30, 3) := by decide +kernel
theorem dX6_takeStage_4 : decode cX6_takeStage 4 = .ok (.getfield 82, 3) := by decide +kernel
theorem dX6_takeStage_7 : decode cX6_takeStage 7 = .ok (.iload_n 1, 1) := by decide +kernel
theorem dX6_takeStage_8 : decode cX6_takeStage 8 = .ok (.iaload, 1) := by decide +kernel
theorem dX6_takeStage_9 : decode cX6_takeStage 9 = .ok (.istore 8, 2) := by decide +kernel
theorem dX6_takeStage_11 : decode cX6_takeStage 11 = .ok (.iload 8, 2) := by decide +kernel
theorem dX6_takeStage_13 : decode cX6_takeStage 13 = .ok (.iconst 1, 1) := by decide +kernel
theorem dX6_takeStage_14 : decode cX6_takeStage 14 = .ok (.if_icmp .eq 9, 3) := by decide +kernel
theorem dX6_takeStage_17 : decode cX6_takeStage 17 = .ok (.iload 8, 2) := by decide +kernel
theorem dX6_takeStage_19 : decode cX6_takeStage 19 = .ok (.iconst 4, 1) := by decide +kernel
theorem dX6_takeStage_20 : decode cX6_takeStage 20 = .ok (.if_icmp .ne 7, 3) := by decide +kernel
theorem dX6_takeStage_23 : decode cX6_takeStage 23 = .ok (.iconst 1, 1) := by decide +kernel
theorem dX6_takeStage_24 : decode cX6_takeStage 24 = .ok (.goto 4, 3) := by decide +kernel
theorem dX6_takeStage_27 : decode cX6_takeStage 27 = .ok (.iconst 0, 1) := by decide +kernel
theorem dX6_takeStage_28 : decode cX6_takeStage 28 = .ok (.istore 9, 2) := by decide +kernel
theorem dX6_takeStage_30 : decode cX6_takeStage 30 = .ok (.iload 8, 2) := by decide +kernel
theorem dX6_takeStage_32 : decode cX6_takeStage 32 = .ok (.iconst 2, 1) := by decide +kernel
theorem dX6_takeStage_33 : decode cX6_takeStage 33 = .ok (.if_icmp .eq 9, 3) := by decide +kernel
theorem dX6_takeStage_36 : decode cX6_takeStage 36 = .ok (.iload 8, 2) := by decide +kernel
theorem dX6_takeStage_38 : decode cX6_takeStage 38 = .ok (.iconst 3, 1) := by decide +kernel
theorem dX6_takeStage_39 : decode cX6_takeStage 39 = .ok (.if_icmp .ne 7, 3) := by decide +kernel
theorem dX6_takeStage_42 : decode cX6_takeStage 42 = .ok (.iconst 1, 1) := by decide +kernel
theorem dX6_takeStage_43 : decode cX6_takeStage 43 = .ok (.goto 4, 3) := by decide +kernel
theorem dX6_takeStage_46 : decode cX6_takeStage 46 = .ok (.iconst 0, 1) := by decide +kernel
theorem dX6_takeStage_47 : decode cX6_takeStage 47 = .ok (.istore 10, 2) := by decide +kernel
theorem dX6_takeStage_49 : decode cX6_takeStage 49 = .ok (.lload_n 2, 1) := by decide +kernel
theorem dX6_takeStage_50 : decode cX6_takeStage 50 = .ok (.lstore 11, 2) := by decide +kernel
theorem dX6_takeStage_52 : decode cX6_takeStage 52 = .ok (.iload 8, 2) := by decide +kernel
theorem dX6_takeStage_54 : decode cX6_takeStage 54 = .ok (.iconst 3, 1) := by decide +kernel
theorem dX6_takeStage_55 : decode cX6_takeStage 55 = .ok (.if_icmp .ne 18, 3) := by decide +kernel
theorem dX6_takeStage_58 : decode cX6_takeStage 58 = .ok (.aload_n 0, 1) := by decide +kernel
theorem dX6_takeStage_59 : decode cX6_takeStage 59 = .ok (.iconst 3, 1) := by decide +kernel
theorem dX6_takeStage_60 : decode cX6_takeStage 60 = .ok (.invokevirtual 85, 3) := by decide +kernel
theorem dX6_takeStage_63 : decode cX6_takeStage 63 = .ok (.lload_n 2, 1) := by decide +kernel
theorem dX6_takeStage_64 : decode cX6_takeStage 64 = .ok (.aload_n 0, 1) := by decide +kernel
theorem dX6_takeStage_65 : decode cX6_takeStage 65 = .ok (.iload_n 1, 1) := by decide +kernel
theorem dX6_takeStage_66 : decode cX6_takeStage 66 = .ok (.iconst 1, 1) := by decide +kernel
theorem dX6_takeStage_67 : decode cX6_takeStage 67 = .ok (.invokevirtual 89, 3) := by decide +kernel
theorem dX6_takeStage_70 : decode cX6_takeStage 70 = .ok (.lsub, 1) := by decide +kernel
theorem dX6_takeStage_71 : decode cX6_takeStage 71 = .ok (.lstore 11, 2) := by decide +kernel
theorem dX6_takeStage_73 : decode cX6_takeStage 73 = .ok (.iload 8, 2) := by decide +kernel
theorem dX6_takeStage_75 : decode cX6_takeStage 75 = .ok (.iconst 4, 1) := by decide +kernel
theorem dX6_takeStage_76 : decode cX6_takeStage 76 = .ok (.if_icmp .ne 25, 3) := by decide +kernel
theorem dX6_takeStage_79 : decode cX6_takeStage 79 = .ok (.aload_n 0, 1) := by decide +kernel
theorem dX6_takeStage_80 : decode cX6_takeStage 80 = .ok (.iconst 4, 1) := by decide +kernel
theorem dX6_takeStage_81 : decode cX6_takeStage 81 = .ok (.invokevirtual 85, 3) := by decide +kernel
theorem dX6_takeStage_84 : decode cX6_takeStage 84 = .ok (.lload_n 2, 1) := by decide +kernel
theorem dX6_takeStage_85 : decode cX6_takeStage 85 = .ok (.aload_n 0, 1) := by decide +kernel
theorem dX6_takeStage_86 : decode cX6_takeStage 86 = .ok (.getfield 30, 3) := by decide +kernel
theorem dX6_takeStage_89 : decode cX6_takeStage 89 = .ok (.getfield 93, 3) := by decide +kernel
theorem dX6_takeStage_92 : decode cX6_takeStage 92 = .ok (.iload_n 1, 1) := by decide +kernel
theorem dX6_takeStage_93 : decode cX6_takeStage 93 = .ok (.iaload, 1) := by decide +kernel
theorem dX6_takeStage_94 : decode cX6_takeStage 94 = .ok (.i2l, 1) := by decide +kernel
theorem dX6_takeStage_95 : decode cX6_takeStage 95 = .ok (.lload 6, 2) := by decide +kernel
theorem dX6_takeStage_97 : decode cX6_takeStage 97 = .ok (.lmul, 1) := by decide +kernel
theorem dX6_takeStage_98 : decode cX6_takeStage 98 = .ok (.ladd, 1) := by decide +kernel
theorem dX6_takeStage_99 : decode cX6_takeStage 99 = .ok (.lstore 11, 2) := by decide +kernel
theorem dX6_takeStage_101 : decode cX6_takeStage 101 = .ok (.iload 9, 2) := by decide +kernel
theorem dX6_takeStage_103 : decode cX6_takeStage 103 = .ok (.ifCond .eq 13, 3) := by decide +kernel
theorem dX6_takeStage_106 : decode cX6_takeStage 106 = .ok (.aload_n 0, 1) := by decide +kernel
theorem dX6_takeStage_107 : decode cX6_takeStage 107 = .ok (.iconst 1, 1) := by decide +kernel
theorem dX6_takeStage_108 : decode cX6_takeStage 108 = .ok (.invokevirtual 85, 3) := by decide +kernel
theorem dX6_takeStage_111 : decode cX6_takeStage 111 = .ok (.aload_n 0, 1) := by decide +kernel
theorem dX6_takeStage_112 : decode cX6_takeStage 112 = .ok (.iload_n 1, 1) := by decide +kernel
theorem dX6_takeStage_113 : decode cX6_takeStage 113 = .ok (.invokevirtual 96, 3) := by decide +kernel
theorem dX6_takeStage_116 : decode cX6_takeStage 116 = .ok (.iload 10, 2) := by decide +kernel
theorem dX6_takeStage_118 : decode cX6_takeStage 118 = .ok (.ifCond .eq 8, 3) := by decide +kernel
theorem dX6_takeStage_121 : decode cX6_takeStage 121 = .ok (.aload_n 0, 1) := by decide +kernel
theorem dX6_takeStage_122 : decode cX6_takeStage 122 = .ok (.iconst 2, 1) := by decide +kernel
theorem dX6_takeStage_123 : decode cX6_takeStage 123 = .ok (.invokevirtual 85, 3) := by decide +kernel
theorem dX6_takeStage_126 : decode cX6_takeStage 126 = .ok (.aload_n 0, 1) := by decide +kernel
theorem dX6_takeStage_127 : decode cX6_takeStage 127 = .ok (.iconst 0, 1) := by decide +kernel
theorem dX6_takeStage_128 : decode cX6_takeStage 128 = .ok (.invokevirtual 85, 3) := by decide +kernel
theorem dX6_takeStage_131 : decode cX6_takeStage 131 = .ok (.aload_n 0, 1) := by decide +kernel
theorem dX6_takeStage_132 : decode cX6_takeStage 132 = .ok (.iload_n 1, 1) := by decide +kernel
theorem dX6_takeStage_133 : decode cX6_takeStage 133 = .ok (.lload 11, 2) := by decide +kernel
theorem dX6_takeStage_135 : decode cX6_takeStage 135 = .ok (.lload 4, 2) := by decide +kernel
theorem dX6_takeStage_137 : decode cX6_takeStage 137 = .ok (.invokevirtual 99, 3) := by decide +kernel
theorem dX6_takeStage_140 : decode cX6_takeStage 140 = .ok (.iload 10, 2) := by decide +kernel
theorem dX6_takeStage_142 : decode cX6_takeStage 142 = .ok (.ifCond .eq 8, 3) := by decide +kernel
theorem dX6_takeStage_145 : decode cX6_takeStage 145 = .ok (.aload_n 0, 1) := by decide +kernel
theorem dX6_takeStage_146 : decode cX6_takeStage 146 = .ok (.iload_n 1, 1) := by decide +kernel
theorem dX6_takeStage_147 : decode cX6_takeStage 147 = .ok (.invokevirtual 103, 3) := by decide +kernel
theorem dX6_takeStage_150 : decode cX6_takeStage 150 = .ok (.iload 8, 2) := by decide +kernel
theorem dX6_takeStage_152 : decode cX6_takeStage 152 = .ok (.iconst 3, 1) := by decide +kernel
theorem dX6_takeStage_153 : decode cX6_takeStage 153 = .ok (.if_icmp .ne 23, 3) := by decide +kernel
theorem dX6_takeStage_156 : decode cX6_takeStage 156 = .ok (.aload_n 0, 1) := by decide +kernel
theorem dX6_takeStage_157 : decode cX6_takeStage 157 = .ok (.getfield 9, 3) := by decide +kernel
theorem dX6_takeStage_160 : decode cX6_takeStage 160 = .ok (.iload_n 1, 1) := by decide +kernel
theorem dX6_takeStage_161 : decode cX6_takeStage 161 = .ok (.bipush 6, 2) := by decide +kernel
theorem dX6_takeStage_163 : decode cX6_takeStage 163 = .ok (.imul, 1) := by decide +kernel
theorem dX6_takeStage_164 : decode cX6_takeStage 164 = .ok (.iconst 1, 1) := by decide +kernel
theorem dX6_takeStage_165 : decode cX6_takeStage 165 = .ok (.iadd, 1) := by decide +kernel
theorem dX6_takeStage_166 : decode cX6_takeStage 166 = .ok (.dup2, 1) := by decide +kernel
theorem dX6_takeStage_167 : decode cX6_takeStage 167 = .ok (.laload, 1) := by decide +kernel
theorem dX6_takeStage_168 : decode cX6_takeStage 168 = .ok (.aload_n 0, 1) := by decide +kernel
theorem dX6_takeStage_169 : decode cX6_takeStage 169 = .ok (.iload_n 1, 1) := by decide +kernel
theorem dX6_takeStage_170 : decode cX6_takeStage 170 = .ok (.iconst 0, 1) := by decide +kernel
theorem dX6_takeStage_171 : decode cX6_takeStage 171 = .ok (.invokevirtual 89, 3) := by decide +kernel
theorem dX6_takeStage_174 : decode cX6_takeStage 174 = .ok (.ladd, 1) := by decide +kernel
theorem dX6_takeStage_175 : decode cX6_takeStage 175 = .ok (.lastore, 1) := by decide +kernel
theorem dX6_takeStage_176 : decode cX6_takeStage 176 = .ok (.return_, 1) := by decide +kernel
theorem dX6_addUp_0 : decode cX6_addUp 0 = .ok (.iload_n 1, 1) := by decide +kernel
theorem dX6_addUp_1 : decode cX6_addUp 1 = .ok (.bipush 6, 2) := by decide +kernel
theorem dX6_addUp_3 : decode cX6_addUp 3 = .ok (.imul, 1) := by decide +kernel
theorem dX6_addUp_4 : decode cX6_addUp 4 = .ok (.istore 6, 2) := by decide +kernel
theorem dX6_addUp_6 : decode cX6_addUp 6 = .ok (.aload_n 0, 1) := by decide +kernel
theorem dX6_addUp_7 : decode cX6_addUp 7 = .ok (.getfield 9, 3) := by decide +kernel
theorem dX6_addUp_10 : decode cX6_addUp 10 = .ok (.iload 6, 2) := by decide +kernel
theorem dX6_addUp_12 : decode cX6_addUp 12 = .ok (.iconst 2, 1) := by decide +kernel
theorem dX6_addUp_13 : decode cX6_addUp 13 = .ok (.iadd, 1) := by decide +kernel
theorem dX6_addUp_14 : decode cX6_addUp 14 = .ok (.dup2, 1) := by decide +kernel
theorem dX6_addUp_15 : decode cX6_addUp 15 = .ok (.laload, 1) := by decide +kernel
theorem dX6_addUp_16 : decode cX6_addUp 16 = .ok (.lload_n 2, 1) := by decide +kernel
theorem dX6_addUp_17 : decode cX6_addUp 17 = .ok (.ladd, 1) := by decide +kernel
theorem dX6_addUp_18 : decode cX6_addUp 18 = .ok (.lastore, 1) := by decide +kernel
theorem dX6_addUp_19 : decode cX6_addUp 19 = .ok (.aload_n 0, 1) := by decide +kernel
theorem dX6_addUp_20 : decode cX6_addUp 20 = .ok (.getfield 9, 3) := by decide +kernel
theorem dX6_addUp_23 : decode cX6_addUp 23 = .ok (.iload 6, 2) := by decide +kernel
theorem dX6_addUp_25 : decode cX6_addUp 25 = .ok (.iconst 3, 1) := by decide +kernel
theorem dX6_addUp_26 : decode cX6_addUp 26 = .ok (.iadd, 1) := by decide +kernel
theorem dX6_addUp_27 : decode cX6_addUp 27 = .ok (.dup2, 1) := by decide +kernel
theorem dX6_addUp_28 : decode cX6_addUp 28 = .ok (.laload, 1) := by decide +kernel
theorem dX6_addUp_29 : decode cX6_addUp 29 = .ok (.lload 4, 2) := by decide +kernel
theorem dX6_addUp_31 : decode cX6_addUp 31 = .ok (.ladd, 1) := by decide +kernel
theorem dX6_addUp_32 : decode cX6_addUp 32 = .ok (.lastore, 1) := by decide +kernel
theorem dX6_addUp_33 : decode cX6_addUp 33 = .ok (.aload_n 0, 1) := by decide +kernel
theorem dX6_addUp_34 : decode cX6_addUp 34 = .ok (.getfield 9, 3) := by decide +kernel
theorem dX6_addUp_37 : decode cX6_addUp 37 = .ok (.iload 6, 2) := by decide +kernel
theorem dX6_addUp_39 : decode cX6_addUp 39 = .ok (.iconst 0, 1) := by decide +kernel
theorem dX6_addUp_40 : decode cX6_addUp 40 = .ok (.iadd, 1) := by decide +kernel
theorem dX6_addUp_41 : decode cX6_addUp 41 = .ok (.dup2, 1) := by decide +kernel
theorem dX6_addUp_42 : decode cX6_addUp 42 = .ok (.laload, 1) := by decide +kernel
theorem dX6_addUp_43 : decode cX6_addUp 43 = .ok (.lload_n 2, 1) := by decide +kernel
theorem dX6_addUp_44 : decode cX6_addUp 44 = .ok (.lload 4, 2) := by decide +kernel
theorem dX6_addUp_46 : decode cX6_addUp 46 = .ok (.lsub, 1) := by decide +kernel
theorem dX6_addUp_47 : decode cX6_addUp 47 = .ok (.ladd, 1) := by decide +kernel
theorem dX6_addUp_48 : decode cX6_addUp 48 = .ok (.lastore, 1) := by decide +kernel
theorem dX6_addUp_49 : decode cX6_addUp 49 = .ok (.return_, 1) := by decide +kernel
theorem dX6_leak_0 : decode cX6_leak 0 = .ok (.iload_n 1, 1) := by decide +kernel
theorem dX6_leak_1 : decode cX6_leak 1 = .ok (.bipush 6, 2) := by decide +kernel
theorem dX6_leak_3 : decode cX6_leak 3 = .ok (.imul, 1) := by decide +kernel
theorem dX6_leak_4 : decode cX6_leak 4 = .ok (.istore_n 2, 1) := by decide +kernel
theorem dX6_leak_5 : decode cX6_leak 5 = .ok (.aload_n 0, 1) := by decide +kernel
theorem dX6_leak_6 : decode cX6_leak 6 = .ok (.getfield 9, 3) := by decide +kernel
theorem dX6_leak_9 : decode cX6_leak 9 = .ok (.iload_n 2, 1) := by decide +kernel
theorem dX6_leak_10 : decode cX6_leak 10 = .ok (.iconst 0, 1) := by decide +kernel
theorem dX6_leak_11 : decode cX6_leak 11 = .ok (.iadd, 1) := by decide +kernel
theorem dX6_leak_12 : decode cX6_leak 12 = .ok (.laload, 1) := by decide +kernel
theorem dX6_leak_13 : decode cX6_leak 13 = .ok (.aload_n 0, 1) := by decide +kernel
theorem dX6_leak_14 : decode cX6_leak 14 = .ok (.getfield 30, 3) := by decide +kernel
theorem dX6_leak_17 : decode cX6_leak 17 = .ok (.getfield 106, 3) := by decide +kernel
theorem dX6_leak_20 : decode cX6_leak 20 = .ok (.iload_n 1, 1) := by decide +kernel
theorem dX6_leak_21 : decode cX6_leak 21 = .ok (.laload, 1) := by decide +kernel
theorem dX6_leak_22 : decode cX6_leak 22 = .ok (.lmul, 1) := by decide +kernel
theorem dX6_leak_23 : decode cX6_leak 23 = .ok (.ldc2_w 109, 3) := by decide +kernel
theorem dX6_leak_26 : decode cX6_leak 26 = .ok (.ldiv, 1) := by decide +kernel
theorem dX6_leak_27 : decode cX6_leak 27 = .ok (.lstore_n 3, 1) := by decide +kernel
theorem dX6_leak_28 : decode cX6_leak 28 = .ok (.aload_n 0, 1) := by decide +kernel
theorem dX6_leak_29 : decode cX6_leak 29 = .ok (.getfield 9, 3) := by decide +kernel
theorem dX6_leak_32 : decode cX6_leak 32 = .ok (.iload_n 2, 1) := by decide +kernel
theorem dX6_leak_33 : decode cX6_leak 33 = .ok (.iconst 4, 1) := by decide +kernel
theorem dX6_leak_34 : decode cX6_leak 34 = .ok (.iadd, 1) := by decide +kernel
theorem dX6_leak_35 : decode cX6_leak 35 = .ok (.dup2, 1) := by decide +kernel
theorem dX6_leak_36 : decode cX6_leak 36 = .ok (.laload, 1) := by decide +kernel
theorem dX6_leak_37 : decode cX6_leak 37 = .ok (.lload_n 3, 1) := by decide +kernel
theorem dX6_leak_38 : decode cX6_leak 38 = .ok (.ladd, 1) := by decide +kernel
theorem dX6_leak_39 : decode cX6_leak 39 = .ok (.lastore, 1) := by decide +kernel
theorem dX6_leak_40 : decode cX6_leak 40 = .ok (.aload_n 0, 1) := by decide +kernel
theorem dX6_leak_41 : decode cX6_leak 41 = .ok (.getfield 9, 3) := by decide +kernel
theorem dX6_leak_44 : decode cX6_leak 44 = .ok (.iload_n 2, 1) := by decide +kernel
theorem dX6_leak_45 : decode cX6_leak 45 = .ok (.iconst 0, 1) := by decide +kernel
theorem dX6_leak_46 : decode cX6_leak 46 = .ok (.iadd, 1) := by decide +kernel
theorem dX6_leak_47 : decode cX6_leak 47 = .ok (.dup2, 1) := by decide +kernel
theorem dX6_leak_48 : decode cX6_leak 48 = .ok (.laload, 1) := by decide +kernel
theorem dX6_leak_49 : decode cX6_leak 49 = .ok (.lload_n 3, 1) := by decide +kernel
theorem dX6_leak_50 : decode cX6_leak 50 = .ok (.lsub, 1) := by decide +kernel
theorem dX6_leak_51 : decode cX6_leak 51 = .ok (.lastore, 1) := by decide +kernel
theorem dX6_leak_52 : decode cX6_leak 52 = .ok (.return_, 1) := by decide +kernel
theorem dX6_cutToBound_0 : decode cX6_cutToBound 0 = .ok (.iload_n 1, 1) := by decide +kernel
theorem dX6_cutToBound_1 : decode cX6_cutToBound 1 = .ok (.bipush 6, 2) := by decide +kernel
theorem dX6_cutToBound_3 : decode cX6_cutToBound 3 = .ok (.imul, 1) := by decide +kernel
theorem dX6_cutToBound_4 : decode cX6_cutToBound 4 = .ok (.istore_n 2, 1) := by decide +kernel
theorem dX6_cutToBound_5 : decode cX6_cutToBound 5 = .ok (.aload_n 0, 1) := by decide +kernel
theorem dX6_cutToBound_6 : decode cX6_cutToBound 6 = .ok (.getfield 30, 3) := by decide +kernel
theorem dX6_cutToBound_9 : decode cX6_cutToBound 9 = .ok (.getfield 106, 3) := by decide +kernel
theorem dX6_cutToBound_12 : decode cX6_cutToBound 12 = .ok (.iload_n 1, 1) := by decide +kernel
theorem dX6_cutToBound_13 : decode cX6_cutToBound 13 = .ok (.laload, 1) := by decide +kernel
theorem dX6_cutToBound_14 : decode cX6_cutToBound 14 = .ok (.lstore_n 3, 1) := by decide +kernel
theorem dX6_cutToBound_15 : decode cX6_cutToBound 15 = .ok (.aload_n 0, 1) := by decide +kernel
theorem dX6_cutToBound_16 : decode cX6_cutToBound 16 = .ok (.getfield 9, 3) := by decide +kernel
theorem dX6_cutToBound_19 : decode cX6_cutToBound 19 = .ok (.iload_n 2, 1) := by decide +kernel
theorem dX6_cutToBound_20 : decode cX6_cutToBound 20 = .ok (.iconst 0, 1) := by decide +kernel
theorem dX6_cutToBound_21 : decode cX6_cutToBound 21 = .ok (.iadd, 1) := by decide +kernel
theorem dX6_cutToBound_22 : decode cX6_cutToBound 22 = .ok (.laload, 1) := by decide +kernel
theorem dX6_cutToBound_23 : decode cX6_cutToBound 23 = .ok (.lstore 5, 2) := by decide +kernel
theorem dX6_cutToBound_25 : decode cX6_cutToBound 25 = .ok (.lload_n 3, 1) := by decide +kernel
theorem dX6_cutToBound_26 : decode cX6_cutToBound 26 = .ok (.lneg, 1) := by decide +kernel
theorem dX6_cutToBound_27 : decode cX6_cutToBound 27 = .ok (.lload_n 3, 1) := by decide +kernel
theorem dX6_cutToBound_28 : decode cX6_cutToBound 28 = .ok (.lload 5, 2) := by decide +kernel
theorem dX6_cutToBound_30 : decode cX6_cutToBound 30 = .ok (.invokestatic 111, 3) := by decide +kernel
theorem dX6_cutToBound_33 : decode cX6_cutToBound 33 = .ok (.invokestatic 117, 3) := by decide +kernel
theorem dX6_cutToBound_36 : decode cX6_cutToBound 36 = .ok (.lstore 7, 2) := by decide +kernel
theorem dX6_cutToBound_38 : decode cX6_cutToBound 38 = .ok (.aload_n 0, 1) := by decide +kernel
theorem dX6_cutToBound_39 : decode cX6_cutToBound 39 = .ok (.getfield 9, 3) := by decide +kernel
theorem dX6_cutToBound_42 : decode cX6_cutToBound 42 = .ok (.iload_n 2, 1) := by decide +kernel
theorem dX6_cutToBound_43 : decode cX6_cutToBound 43 = .ok (.iconst 0, 1) := by decide +kernel
theorem dX6_cutToBound_44 : decode cX6_cutToBound 44 = .ok (.iadd, 1) := by decide +kernel
theorem dX6_cutToBound_45 : decode cX6_cutToBound 45 = .ok (.lload 7, 2) := by decide +kernel
theorem dX6_cutToBound_47 : decode cX6_cutToBound 47 = .ok (.lastore, 1) := by decide +kernel
theorem dX6_cutToBound_48 : decode cX6_cutToBound 48 = .ok (.aload_n 0, 1) := by decide +kernel
theorem dX6_cutToBound_49 : decode cX6_cutToBound 49 = .ok (.getfield 9, 3) := by decide +kernel
theorem dX6_cutToBound_52 : decode cX6_cutToBound 52 = .ok (.iload_n 2, 1) := by decide +kernel
theorem dX6_cutToBound_53 : decode cX6_cutToBound 53 = .ok (.iconst 5, 1) := by decide +kernel
theorem dX6_cutToBound_54 : decode cX6_cutToBound 54 = .ok (.iadd, 1) := by decide +kernel
theorem dX6_cutToBound_55 : decode cX6_cutToBound 55 = .ok (.dup2, 1) := by decide +kernel
theorem dX6_cutToBound_56 : decode cX6_cutToBound 56 = .ok (.laload, 1) := by decide +kernel
theorem dX6_cutToBound_57 : decode cX6_cutToBound 57 = .ok (.lload 5, 2) := by decide +kernel
theorem dX6_cutToBound_59 : decode cX6_cutToBound 59 = .ok (.lload 7, 2) := by decide +kernel
theorem dX6_cutToBound_61 : decode cX6_cutToBound 61 = .ok (.lsub, 1) := by decide +kernel
theorem dX6_cutToBound_62 : decode cX6_cutToBound 62 = .ok (.ladd, 1) := by decide +kernel
theorem dX6_cutToBound_63 : decode cX6_cutToBound 63 = .ok (.lastore, 1) := by decide +kernel
theorem dX6_cutToBound_64 : decode cX6_cutToBound 64 = .ok (.return_, 1) := by decide +kernel
theorem dX6_turnedBy_0 : decode cX6_turnedBy 0 = .ok (.aload_n 0, 1) := by decide +kernel
theorem dX6_turnedBy_1 : decode cX6_turnedBy 1 = .ok (.getfield 9, 3) := by decide +kernel
theorem dX6_turnedBy_4 : decode cX6_turnedBy 4 = .ok (.iload_n 1, 1) := by decide +kernel
theorem dX6_turnedBy_5 : decode cX6_turnedBy 5 = .ok (.bipush 6, 2) := by decide +kernel
theorem dX6_turnedBy_7 : decode cX6_turnedBy 7 = .ok (.imul, 1) := by decide +kernel
theorem dX6_turnedBy_8 : decode cX6_turnedBy 8 = .ok (.iload_n 2, 1) := by decide +kernel
theorem dX6_turnedBy_9 : decode cX6_turnedBy 9 = .ok (.iadd, 1) := by decide +kernel
theorem dX6_turnedBy_10 : decode cX6_turnedBy 10 = .ok (.laload, 1) := by decide +kernel
theorem dX6_turnedBy_11 : decode cX6_turnedBy 11 = .ok (.aload_n 0, 1) := by decide +kernel
theorem dX6_turnedBy_12 : decode cX6_turnedBy 12 = .ok (.getfield 30, 3) := by decide +kernel
theorem dX6_turnedBy_15 : decode cX6_turnedBy 15 = .ok (.getfield 93, 3) := by decide +kernel
theorem dX6_turnedBy_18 : decode cX6_turnedBy 18 = .ok (.iload_n 1, 1) := by decide +kernel
theorem dX6_turnedBy_19 : decode cX6_turnedBy 19 = .ok (.iaload, 1) := by decide +kernel
theorem dX6_turnedBy_20 : decode cX6_turnedBy 20 = .ok (.i2l, 1) := by decide +kernel
theorem dX6_turnedBy_21 : decode cX6_turnedBy 21 = .ok (.lmul, 1) := by decide +kernel
theorem dX6_turnedBy_22 : decode cX6_turnedBy 22 = .ok (.ldc2_w 109, 3) := by decide +kernel
theorem dX6_turnedBy_25 : decode cX6_turnedBy 25 = .ok (.ldiv, 1) := by decide +kernel
theorem dX6_turnedBy_26 : decode cX6_turnedBy 26 = .ok (.lreturn, 1) := by decide +kernel
theorem dX6_mark_0 : decode cX6_mark 0 = .ok (.aload_n 0, 1) := by decide +kernel
theorem dX6_mark_1 : decode cX6_mark 1 = .ok (.getfield 19, 3) := by decide +kernel
theorem dX6_mark_4 : decode cX6_mark 4 = .ok (.bipush 15, 2) := by decide +kernel
theorem dX6_mark_6 : decode cX6_mark 6 = .ok (.if_icmp .ge 26, 3) := by decide +kernel
theorem dX6_mark_9 : decode cX6_mark 9 = .ok (.aload_n 0, 1) := by decide +kernel
theorem dX6_mark_10 : decode cX6_mark 10 = .ok (.getfield 15, 3) := by decide +kernel
theorem dX6_mark_13 : decode cX6_mark 13 = .ok (.aload_n 0, 1) := by decide +kernel
theorem dX6_mark_14 : decode cX6_mark 14 = .ok (.getfield 19, 3) := by decide +kernel
theorem dX6_mark_17 : decode cX6_mark 17 = .ok (.bipush 10, 2) := by decide +kernel
theorem dX6_mark_19 : decode cX6_mark 19 = .ok (.iload_n 1, 1) := by decide +kernel
theorem dX6_mark_20 : decode cX6_mark 20 = .ok (.iadd, 1) := by decide +kernel
theorem dX6_mark_21 : decode cX6_mark 21 = .ok (.iastore, 1) := by decide +kernel
theorem dX6_mark_22 : decode cX6_mark 22 = .ok (.aload_n 0, 1) := by decide +kernel
theorem dX6_mark_23 : decode cX6_mark 23 = .ok (.dup, 1) := by decide +kernel
theorem dX6_mark_24 : decode cX6_mark 24 = .ok (.getfield 19, 3) := by decide +kernel
theorem dX6_mark_27 : decode cX6_mark 27 = .ok (.iconst 1, 1) := by decide +kernel
theorem dX6_mark_28 : decode cX6_mark 28 = .ok (.iadd, 1) := by decide +kernel
theorem dX6_mark_29 : decode cX6_mark 29 = .ok (.putfield 19, 3) := by decide +kernel
theorem dX6_mark_32 : decode cX6_mark 32 = .ok (.return_, 1) := by decide +kernel
theorem dX6_isGreat_0 : decode cX6_isGreat 0 = .ok (.lload_n 0, 1) := by decide +kernel
theorem dX6_isGreat_1 : decode cX6_isGreat 1 = .ok (.ldc2_w 120, 3) := by decide +kernel
theorem dX6_isGreat_4 : decode cX6_isGreat 4 = .ok (.lcmp, 1) := by decide +kernel
theorem dX6_isGreat_5 : decode cX6_isGreat 5 = .ok (.ifCond .ge 11, 3) := by decide +kernel
theorem dX6_isGreat_8 : decode cX6_isGreat 8 = .ok (.lload_n 0, 1) := by decide +kernel
theorem dX6_isGreat_9 : decode cX6_isGreat 9 = .ok (.ldc2_w 122, 3) := by decide +kernel
theorem dX6_isGreat_12 : decode cX6_isGreat 12 = .ok (.lcmp, 1) := by decide +kernel
theorem dX6_isGreat_13 : decode cX6_isGreat 13 = .ok (.ifCond .gt 7, 3) := by decide +kernel
theorem dX6_isGreat_16 : decode cX6_isGreat 16 = .ok (.iconst 1, 1) := by decide +kernel
theorem dX6_isGreat_17 : decode cX6_isGreat 17 = .ok (.goto 4, 3) := by decide +kernel
theorem dX6_isGreat_20 : decode cX6_isGreat 20 = .ok (.iconst 0, 1) := by decide +kernel
theorem dX6_isGreat_21 : decode cX6_isGreat 21 = .ok (.ireturn, 1) := by decide +kernel
theorem dX7_init_0 : decode cX7_init 0 = .ok (.aload_n 0, 1) := by decide +kernel
theorem dX7_init_1 : decode cX7_init 1 = .ok (.invokespecial 3, 3) := by decide +kernel
theorem dX7_init_4 : decode cX7_init 4 = .ok (.aload_n 0, 1) := by decide +kernel
theorem dX7_init_5 : decode cX7_init 5 = .ok (.bipush 13, 2) := by decide +kernel
theorem dX7_init_7 : decode cX7_init 7 = .ok (.anewarray 9, 3) := by decide +kernel
theorem dX7_init_10 : decode cX7_init 10 = .ok (.putfield 11, 3) := by decide +kernel
theorem dX7_init_13 : decode cX7_init 13 = .ok (.aload_n 0, 1) := by decide +kernel
theorem dX7_init_14 : decode cX7_init 14 = .ok (.iconst 0, 1) := by decide +kernel
theorem dX7_init_15 : decode cX7_init 15 = .ok (.putfield 17, 3) := by decide +kernel
theorem dX7_init_18 : decode cX7_init 18 = .ok (.aload_n 0, 1) := by decide +kernel
theorem dX7_init_19 : decode cX7_init 19 = .ok (.lconst 0, 1) := by decide +kernel
theorem dX7_init_20 : decode cX7_init 20 = .ok (.putfield 21, 3) := by decide +kernel
theorem dX7_init_23 : decode cX7_init 23 = .ok (.aload_n 0, 1) := by decide +kernel
theorem dX7_init_24 : decode cX7_init 24 = .ok (.iconst 0, 1) := by decide +kernel
theorem dX7_init_25 : decode cX7_init 25 = .ok (.putfield 25, 3) := by decide +kernel
theorem dX7_init_28 : decode cX7_init 28 = .ok (.aload_n 0, 1) := by decide +kernel
theorem dX7_init_29 : decode cX7_init 29 = .ok (.iconst 0, 1) := by decide +kernel
theorem dX7_init_30 : decode cX7_init 30 = .ok (.putfield 28, 3) := by decide +kernel
theorem dX7_init_33 : decode cX7_init 33 = .ok (.aload_n 0, 1) := by decide +kernel
theorem dX7_init_34 : decode cX7_init 34 = .ok (.lconst 0, 1) := by decide +kernel
theorem dX7_init_35 : decode cX7_init 35 = .ok (.putfield 31, 3) := by decide +kernel
theorem dX7_init_38 : decode cX7_init 38 = .ok (.aload_n 0, 1) := by decide +kernel
theorem dX7_init_39 : decode cX7_init 39 = .ok (.lconst 0, 1) := by decide +kernel
theorem dX7_init_40 : decode cX7_init 40 = .ok (.putfield 34, 3) := by decide +kernel
theorem dX7_init_43 : decode cX7_init 43 = .ok (.aload_n 0, 1) := by decide +kernel
theorem dX7_init_44 : decode cX7_init 44 = .ok (.aload_n 1, 1) := by decide +kernel
theorem dX7_init_45 : decode cX7_init 45 = .ok (.putfield 37, 3) := by decide +kernel
theorem dX7_init_48 : decode cX7_init 48 = .ok (.iconst 0, 1) := by decide +kernel
theorem dX7_init_49 : decode cX7_init 49 = .ok (.istore_n 2, 1) := by decide +kernel
theorem dX7_init_50 : decode cX7_init 50 = .ok (.iload_n 2, 1) := by decide +kernel
theorem dX7_init_51 : decode cX7_init 51 = .ok (.bipush 12, 2) := by decide +kernel
theorem dX7_init_53 : decode cX7_init 53 = .ok (.if_icmp .gt 23, 3) := by decide +kernel
theorem dX7_init_56 : decode cX7_init 56 = .ok (.aload_n 0, 1) := by decide +kernel
theorem dX7_init_57 : decode cX7_init 57 = .ok (.getfield 11, 3) := by decide +kernel
theorem dX7_init_60 : decode cX7_init 60 = .ok (.iload_n 2, 1) := by decide +kernel
theorem dX7_init_61 : decode cX7_init 61 = .ok (.new 9, 3) := by decide +kernel
theorem dX7_init_64 : decode cX7_init 64 = .ok (.dup, 1) := by decide +kernel
theorem dX7_init_65 : decode cX7_init 65 = .ok (.aload_n 1, 1) := by decide +kernel
theorem dX7_init_66 : decode cX7_init 66 = .ok (.invokespecial 41, 3) := by decide +kernel
theorem dX7_init_69 : decode cX7_init 69 = .ok (.aastore, 1) := by decide +kernel
theorem dX7_init_70 : decode cX7_init 70 = .ok (.iinc 2 1, 3) := by decide +kernel
theorem dX7_init_73 : decode cX7_init 73 = .ok (.goto (-23), 3) := by decide +kernel
theorem dX7_init_76 : decode cX7_init 76 = .ok (.return_, 1) := by decide +kernel
theorem dX7_goThroughAll_0 : decode cX7_goThroughAll 0 = .ok (.iconst 1, 1) := by decide +kernel
theorem dX7_goThroughAll_1 : decode cX7_goThroughAll 1 = .ok (.iload_n 1, 1) := by decide +kernel
theorem dX7_goThroughAll_2 : decode cX7_goThroughAll 2 = .ok (.ishl, 1) := by decide +kernel
theorem dX7_goThroughAll_3 : decode cX7_goThroughAll 3 = .ok (.istore 6, 2) := by decide +kernel
theorem dX7_goThroughAll_5 : decode cX7_goThroughAll 5 = .ok (.aload_n 0, 1) := by decide +kernel
theorem dX7_goThroughAll_6 : decode cX7_goThroughAll 6 = .ok (.getfield 37, 3) := by decide +kernel
theorem dX7_goThroughAll_9 : decode cX7_goThroughAll 9 = .ok (.getfield 44, 3) := by decide +kernel
theorem dX7_goThroughAll_12 : decode cX7_goThroughAll 12 = .ok (.iconst 1, 1) := by decide +kernel
theorem dX7_goThroughAll_13 : decode cX7_goThroughAll 13 = .ok (.isub, 1) := by decide +kernel
theorem dX7_goThroughAll_14 : decode cX7_goThroughAll 14 = .ok (.bipush 6, 2) := by decide +kernel
theorem dX7_goThroughAll_16 : decode cX7_goThroughAll 16 = .ok (.imul, 1) := by decide +kernel
theorem dX7_goThroughAll_17 : decode cX7_goThroughAll 17 = .ok (.iconst 0, 1) := by decide +kernel
theorem dX7_goThroughAll_18 : decode cX7_goThroughAll 18 = .ok (.iadd, 1) := by decide +kernel
theorem dX7_goThroughAll_19 : decode cX7_goThroughAll 19 = .ok (.istore 7, 2) := by decide +kernel
theorem dX7_goThroughAll_21 : decode cX7_goThroughAll 21 = .ok (.ldc2_w 49, 3) := by decide +kernel
theorem dX7_goThroughAll_24 : decode cX7_goThroughAll 24 = .ok (.lstore 8, 2) := by decide +kernel
theorem dX7_goThroughAll_26 : decode cX7_goThroughAll 26 = .ok (.iconst 0, 1) := by decide +kernel
theorem dX7_goThroughAll_27 : decode cX7_goThroughAll 27 = .ok (.istore 10, 2) := by decide +kernel
theorem dX7_goThroughAll_29 : decode cX7_goThroughAll 29 = .ok (.aload_n 0, 1) := by decide +kernel
theorem dX7_goThroughAll_30 : decode cX7_goThroughAll 30 = .ok (.getfield 11, 3) := by decide +kernel
theorem dX7_goThroughAll_33 : decode cX7_goThroughAll 33 = .ok (.iconst 0, 1) := by decide +kernel
theorem dX7_goThroughAll_34 : decode cX7_goThroughAll 34 = .ok (.aaload, 1) := by decide +kernel
theorem dX7_goThroughAll_35 : decode cX7_goThroughAll 35 = .ok (.invokevirtual 51, 3) := by decide +kernel
theorem dX7_goThroughAll_38 : decode cX7_goThroughAll 38 = .ok (.iconst 0, 1) := by decide +kernel
theorem dX7_goThroughAll_39 : decode cX7_goThroughAll 39 = .ok (.istore 11, 2) := by decide +kernel
theorem dX7_goThroughAll_41 : decode cX7_goThroughAll 41 = .ok (.iload 11, 2) := by decide +kernel
theorem dX7_goThroughAll_43 : decode cX7_goThroughAll 43 = .ok (.iload 6, 2) := by decide +kernel
theorem dX7_goThroughAll_45 : decode cX7_goThroughAll 45 = .ok (.if_icmp .ge 79, 3) := by decide +kernel
theorem dX7_goThroughAll_48 : decode cX7_goThroughAll 48 = .ok (.iload 11, 2) := by decide +kernel
theorem dX7_goThroughAll_50 : decode cX7_goThroughAll 50 = .ok (.ifCond .ne 7, 3) := by decide +kernel
theorem dX7_goThroughAll_53 : decode cX7_goThroughAll 53 = .ok (.iconst 0, 1) := by decide +kernel
theorem dX7_goThroughAll_54 : decode cX7_goThroughAll 54 = .ok (.goto 12, 3) := by decide +kernel
theorem dX7_goThroughAll_57 : decode cX7_goThroughAll 57 = .ok (.iload_n 1, 1) := by decide +kernel
theorem dX7_goThroughAll_58 : decode cX7_goThroughAll 58 = .ok (.iconst 1, 1) := by decide +kernel
theorem dX7_goThroughAll_59 : decode cX7_goThroughAll 59 = .ok (.isub, 1) := by decide +kernel
theorem dX7_goThroughAll_60 : decode cX7_goThroughAll 60 = .ok (.iload 11, 2) := by decide +kernel
theorem dX7_goThroughAll_62 : decode cX7_goThroughAll 62 = .ok (.invokestatic 54, 3) := by decide +kernel
theorem dX7_goThroughAll_65 : decode cX7_goThroughAll 65 = .ok (.isub, 1) := by decide +kernel
theorem dX7_goThroughAll_66 : decode cX7_goThroughAll 66 = .ok (.istore 12, 2) := by decide +kernel
theorem dX7_goThroughAll_68 : decode cX7_goThroughAll 68 = .ok (.aload_n 0, 1) := by decide +kernel
theorem dX7_goThroughAll_69 : decode cX7_goThroughAll 69 = .ok (.iload 11, 2) := by decide +kernel
theorem dX7_goThroughAll_71 : decode cX7_goThroughAll 71 = .ok (.iload 12, 2) := by decide +kernel
theorem dX7_goThroughAll_73 : decode cX7_goThroughAll 73 = .ok (.iload_n 1, 1) := by decide +kernel
theorem dX7_goThroughAll_74 : decode cX7_goThroughAll 74 = .ok (.lload_n 2, 1) := by decide +kernel
theorem dX7_goThroughAll_75 : decode cX7_goThroughAll 75 = .ok (.lload 4, 2) := by decide +kernel
theorem dX7_goThroughAll_77 : decode cX7_goThroughAll 77 = .ok (.invokevirtual 60, 3) := by decide +kernel
theorem dX7_goThroughAll_80 : decode cX7_goThroughAll 80 = .ok (.ifCond .ne 5, 3) := by decide +kernel
theorem dX7_goThroughAll_83 : decode cX7_goThroughAll 83 = .ok (.iconst 0, 1) := by decide +kernel
theorem dX7_goThroughAll_84 : decode cX7_goThroughAll 84 = .ok (.ireturn, 1) := by decide +kernel
theorem dX7_goThroughAll_85 : decode cX7_goThroughAll 85 = .ok (.aload_n 0, 1) := by decide +kernel
theorem dX7_goThroughAll_86 : decode cX7_goThroughAll 86 = .ok (.getfield 11, 3) := by decide +kernel
theorem dX7_goThroughAll_89 : decode cX7_goThroughAll 89 = .ok (.iload_n 1, 1) := by decide +kernel
theorem dX7_goThroughAll_90 : decode cX7_goThroughAll 90 = .ok (.aaload, 1) := by decide +kernel
theorem dX7_goThroughAll_91 : decode cX7_goThroughAll 91 = .ok (.getfield 64, 3) := by decide +kernel
theorem dX7_goThroughAll_94 : decode cX7_goThroughAll 94 = .ok (.iload 7, 2) := by decide +kernel
theorem dX7_goThroughAll_96 : decode cX7_goThroughAll 96 = .ok (.laload, 1) := by decide +kernel
theorem dX7_goThroughAll_97 : decode cX7_goThroughAll 97 = .ok (.invokestatic 68, 3) := by decide +kernel
theorem dX7_goThroughAll_100 : decode cX7_goThroughAll 100 = .ok (.lstore 13, 2) := by decide +kernel
theorem dX7_goThroughAll_102 : decode cX7_goThroughAll 102 = .ok (.lload 13, 2) := by decide +kernel
theorem dX7_goThroughAll_104 : decode cX7_goThroughAll 104 = .ok (.lload 8, 2) := by decide +kernel
theorem dX7_goThroughAll_106 : decode cX7_goThroughAll 106 = .ok (.lcmp, 1) := by decide +kernel
theorem dX7_goThroughAll_107 : decode cX7_goThroughAll 107 = .ok (.ifCond .le 11, 3) := by decide +kernel
theorem dX7_goThroughAll_110 : decode cX7_goThroughAll 110 = .ok (.lload 13, 2) := by decide +kernel
theorem dX7_goThroughAll_112 : decode cX7_goThroughAll 112 = .ok (.lstore 8, 2) := by decide +kernel
theorem dX7_goThroughAll_114 : decode cX7_goThroughAll 114 = .ok (.iload 11, 2) := by decide +kernel
theorem dX7_goThroughAll_116 : decode cX7_goThroughAll 116 = .ok (.istore 10, 2) := by decide +kernel
theorem dX7_goThroughAll_118 : decode cX7_goThroughAll 118 = .ok (.iinc 11 1, 3) := by decide +kernel
theorem dX7_goThroughAll_121 : decode cX7_goThroughAll 121 = .ok (.goto (-80), 3) := by decide +kernel
theorem dX7_goThroughAll_124 : decode cX7_goThroughAll 124 = .ok (.aload_n 0, 1) := by decide +kernel
theorem dX7_goThroughAll_125 : decode cX7_goThroughAll 125 = .ok (.lload 8, 2) := by decide +kernel
theorem dX7_goThroughAll_127 : decode cX7_goThroughAll 127 = .ok (.putfield 21, 3) := by decide +kernel
theorem dX7_goThroughAll_130 : decode cX7_goThroughAll 130 = .ok (.aload_n 0, 1) := by decide +kernel
theorem dX7_goThroughAll_131 : decode cX7_goThroughAll 131 = .ok (.iload_n 1, 1) := by decide +kernel
theorem dX7_goThroughAll_132 : decode cX7_goThroughAll 132 = .ok (.putfield 25, 3) := by decide +kernel
theorem dX7_goThroughAll_135 : decode cX7_goThroughAll 135 = .ok (.aload_n 0, 1) := by decide +kernel
theorem dX7_goThroughAll_136 : decode cX7_goThroughAll 136 = .ok (.iload 10, 2) := by decide +kernel
theorem dX7_goThroughAll_138 : decode cX7_goThroughAll 138 = .ok (.putfield 28, 3) := by decide +kernel
theorem dX7_goThroughAll_141 : decode cX7_goThroughAll 141 = .ok (.aload_n 0, 1) := by decide +kernel
theorem dX7_goThroughAll_142 : decode cX7_goThroughAll 142 = .ok (.lload_n 2, 1) := by decide +kernel
theorem dX7_goThroughAll_143 : decode cX7_goThroughAll 143 = .ok (.putfield 31, 3) := by decide +kernel
theorem dX7_goThroughAll_146 : decode cX7_goThroughAll 146 = .ok (.aload_n 0, 1) := by decide +kernel
theorem dX7_goThroughAll_147 : decode cX7_goThroughAll 147 = .ok (.lload 4, 2) := by decide +kernel
theorem dX7_goThroughAll_149 : decode cX7_goThroughAll 149 = .ok (.putfield 34, 3) := by decide +kernel
theorem dX7_goThroughAll_152 : decode cX7_goThroughAll 152 = .ok (.iconst 1, 1) := by decide +kernel
theorem dX7_goThroughAll_153 : decode cX7_goThroughAll 153 = .ok (.ireturn, 1) := by decide +kernel
theorem dX7_goOn_0 : decode cX7_goOn 0 = .ok (.iload_n 2, 1) := by decide +kernel
theorem dX7_goOn_1 : decode cX7_goOn 1 = .ok (.istore 8, 2) := by decide +kernel
theorem dX7_goOn_3 : decode cX7_goOn 3 = .ok (.iload 8, 2) := by decide +kernel
theorem dX7_goOn_5 : decode cX7_goOn 5 = .ok (.iload_n 3, 1) := by decide +kernel
theorem dX7_goOn_6 : decode cX7_goOn 6 = .ok (.if_icmp .ge 62, 3) := by decide +kernel
theorem dX7_goOn_9 : decode cX7_goOn 9 = .ok (.aload_n 0, 1) := by decide +kernel
theorem dX7_goOn_10 : decode cX7_goOn 10 = .ok (.getfield 11, 3) := by decide +kernel
theorem dX7_goOn_13 : decode cX7_goOn 13 = .ok (.iload 8, 2) := by decide +kernel
theorem dX7_goOn_15 : decode cX7_goOn 15 = .ok (.iconst 1, 1) := by decide +kernel
theorem dX7_goOn_16 : decode cX7_goOn 16 = .ok (.iadd, 1) := by decide +kernel
theorem dX7_goOn_17 : decode cX7_goOn 17 = .ok (.aaload, 1) := by decide +kernel
theorem dX7_goOn_18 : decode cX7_goOn 18 = .ok (.aload_n 0, 1) := by decide +kernel
theorem dX7_goOn_19 : decode cX7_goOn 19 = .ok (.getfield 11, 3) := by decide +kernel
theorem dX7_goOn_22 : decode cX7_goOn 22 = .ok (.iload 8, 2) := by decide +kernel
theorem dX7_goOn_24 : decode cX7_goOn 24 = .ok (.aaload, 1) := by decide +kernel
theorem dX7_goOn_25 : decode cX7_goOn 25 = .ok (.invokevirtual 74, 3) := by decide +kernel
theorem dX7_goOn_28 : decode cX7_goOn 28 = .ok (.aload_n 0, 1) := by decide +kernel
theorem dX7_goOn_29 : decode cX7_goOn 29 = .ok (.getfield 11, 3) := by decide +kernel
theorem dX7_goOn_32 : decode cX7_goOn 32 = .ok (.iload 8, 2) := by decide +kernel
theorem dX7_goOn_34 : decode cX7_goOn 34 = .ok (.iconst 1, 1) := by decide +kernel
theorem dX7_goOn_35 : decode cX7_goOn 35 = .ok (.iadd, 1) := by decide +kernel
theorem dX7_goOn_36 : decode cX7_goOn 36 = .ok (.aaload, 1) := by decide +kernel
theorem dX7_goOn_37 : decode cX7_goOn 37 = .ok (.iload_n 1, 1) := by decide +kernel
theorem dX7_goOn_38 : decode cX7_goOn 38 = .ok (.iload 8, 2) := by decide +kernel
theorem dX7_goOn_40 : decode cX7_goOn 40 = .ok (.iload_n 3, 1) := by decide +kernel
theorem dX7_goOn_41 : decode cX7_goOn 41 = .ok (.invokestatic 78, 3) := by decide +kernel
theorem dX7_goOn_44 : decode cX7_goOn 44 = .ok (.ifCond .eq 8, 3) := by decide +kernel
theorem dX7_goOn_47 : decode cX7_goOn 47 = .ok (.lload 6, 2) := by decide +kernel
theorem dX7_goOn_49 : decode cX7_goOn 49 = .ok (.goto 5, 3) := by decide +kernel
theorem dX7_goOn_52 : decode cX7_goOn 52 = .ok (.lload 4, 2) := by decide +kernel
theorem dX7_goOn_54 : decode cX7_goOn 54 = .ok (.invokevirtual 82, 3) := by decide +kernel
theorem dX7_goOn_57 : decode cX7_goOn 57 = .ok (.ifCond .ne 5, 3) := by decide +kernel
theorem dX7_goOn_60 : decode cX7_goOn 60 = .ok (.iconst 0, 1) := by decide +kernel
theorem dX7_goOn_61 : decode cX7_goOn 61 = .ok (.ireturn, 1) := by decide +kernel
theorem dX7_goOn_62 : decode cX7_goOn 62 = .ok (.iinc 8 1, 3) := by decide +kernel
theorem dX7_goOn_65 : decode cX7_goOn 65 = .ok (.goto (-62), 3) := by decide +kernel
theorem dX7_goOn_68 : decode cX7_goOn 68 = .ok (.iconst 1, 1) := by decide +kernel
theorem dX7_goOn_69 : decode cX7_goOn 69 = .ok (.ireturn, 1) := by decide +kernel
theorem dX7_isOne_0 : decode cX7_isOne 0 = .ok (.iload_n 0, 1) := by decide +kernel
theorem dX7_isOne_1 : decode cX7_isOne 1 = .ok (.iload_n 2, 1) := by decide +kernel
theorem dX7_isOne_2 : decode cX7_isOne 2 = .ok (.iconst 1, 1) := by decide +kernel
theorem dX7_isOne_3 : decode cX7_isOne 3 = .ok (.isub, 1) := by decide +kernel
theorem dX7_isOne_4 : decode cX7_isOne 4 = .ok (.iload_n 1, 1) := by decide +kernel
theorem dX7_isOne_5 : decode cX7_isOne 5 = .ok (.isub, 1) := by decide +kernel
theorem dX7_isOne_6 : decode cX7_isOne 6 = .ok (.iushr, 1) := by decide +kernel
theorem dX7_isOne_7 : decode cX7_isOne 7 = .ok (.iconst 1, 1) := by decide +kernel
theorem dX7_isOne_8 : decode cX7_isOne 8 = .ok (.iand, 1) := by decide +kernel
theorem dX7_isOne_9 : decode cX7_isOne 9 = .ok (.iconst 1, 1) := by decide +kernel
theorem dX7_isOne_10 : decode cX7_isOne 10 = .ok (.if_icmp .ne 7, 3) := by decide +kernel
theorem dX7_isOne_13 : decode cX7_isOne 13 = .ok (.iconst 1, 1) := by decide +kernel
theorem dX7_isOne_14 : decode cX7_isOne 14 = .ok (.goto 4, 3) := by decide +kernel
theorem dX7_isOne_17 : decode cX7_isOne 17 = .ok (.iconst 0, 1) := by decide +kernel
theorem dX7_isOne_18 : decode cX7_isOne 18 = .ok (.ireturn, 1) := by decide +kernel
theorem dX7_sampleOf_0 : decode cX7_sampleOf 0 = .ok (.iload_n 1, 1) := by decide +kernel
theorem dX7_sampleOf_1 : decode cX7_sampleOf 1 = .ok (.ifCond .lt 11, 3) := by decide +kernel
theorem dX7_sampleOf_4 : decode cX7_sampleOf 4 = .ok (.iload_n 1, 1) := by decide +kernel
theorem dX7_sampleOf_5 : decode cX7_sampleOf 5 = .ok (.aload_n 0, 1) := by decide +kernel
theorem dX7_sampleOf_6 : decode cX7_sampleOf 6 = .ok (.getfield 25, 3) := by decide +kernel
theorem dX7_sampleOf_9 : decode cX7_sampleOf 9 = .ok (.if_icmp .lt 5, 3) := by decide +kernel
theorem dX7_sampleOf_12 : decode cX7_sampleOf 12 = .ok (.lconst 0, 1) := by decide +kernel
theorem dX7_sampleOf_13 : decode cX7_sampleOf 13 = .ok (.lreturn, 1) := by decide +kernel
theorem dX7_sampleOf_14 : decode cX7_sampleOf 14 = .ok (.aload_n 0, 1) := by decide +kernel
theorem dX7_sampleOf_15 : decode cX7_sampleOf 15 = .ok (.getfield 28, 3) := by decide +kernel
theorem dX7_sampleOf_18 : decode cX7_sampleOf 18 = .ok (.iload_n 1, 1) := by decide +kernel
theorem dX7_sampleOf_19 : decode cX7_sampleOf 19 = .ok (.aload_n 0, 1) := by decide +kernel
theorem dX7_sampleOf_20 : decode cX7_sampleOf 20 = .ok (.getfield 25, 3) := by decide +kernel
theorem dX7_sampleOf_23 : decode cX7_sampleOf 23 = .ok (.invokestatic 78, 3) := by decide +kernel
theorem dX7_sampleOf_26 : decode cX7_sampleOf 26 = .ok (.ifCond .eq 10, 3) := by decide +kernel
theorem dX7_sampleOf_29 : decode cX7_sampleOf 29 = .ok (.aload_n 0, 1) := by decide +kernel
theorem dX7_sampleOf_30 : decode cX7_sampleOf 30 = .ok (.getfield 34, 3) := by decide +kernel
theorem dX7_sampleOf_33 : decode cX7_sampleOf 33 = .ok (.goto 7, 3) := by decide +kernel
theorem dX7_sampleOf_36 : decode cX7_sampleOf 36 = .ok (.aload_n 0, 1) := by decide +kernel
theorem dX7_sampleOf_37 : decode cX7_sampleOf 37 = .ok (.getfield 31, 3) := by decide +kernel
theorem dX7_sampleOf_40 : decode cX7_sampleOf 40 = .ok (.lreturn, 1) := by decide +kernel
theorem dX8_init_0 : decode cX8_init 0 = .ok (.aload_n 0, 1) := by decide +kernel
theorem dX8_init_1 : decode cX8_init 1 = .ok (.invokespecial 3, 3) := by decide +kernel
theorem dX8_init_4 : decode cX8_init 4 = .ok (.aload_n 0, 1) := by decide +kernel
theorem dX8_init_5 : decode cX8_init 5 = .ok (.bipush 6, 2) := by decide +kernel
theorem dX8_init_7 : decode cX8_init 7 = .ok (.anewarray 9, 3) := by decide +kernel
theorem dX8_init_10 : decode cX8_init 10 = .ok (.putfield 11, 3) := by decide +kernel
theorem dX8_init_13 : decode cX8_init 13 = .ok (.iconst 0, 1) := by decide +kernel
theorem dX8_init_14 : decode cX8_init 14 = .ok (.istore_n 1, 1) := by decide +kernel
theorem dX8_init_15 : decode cX8_init 15 = .ok (.iload_n 1, 1) := by decide +kernel
theorem dX8_init_16 : decode cX8_init 16 = .ok (.bipush 6, 2) := by decide +kernel
theorem dX8_init_18 : decode cX8_init 18 = .ok (.if_icmp .ge 22, 3) := by decide +kernel
theorem dX8_init_21 : decode cX8_init 21 = .ok (.aload_n 0, 1) := by decide +kernel
theorem dX8_init_22 : decode cX8_init 22 = .ok (.getfield 11, 3) := by decide +kernel
theorem dX8_init_25 : decode cX8_init 25 = .ok (.iload_n 1, 1) := by decide +kernel
theorem dX8_init_26 : decode cX8_init 26 = .ok (.new 9, 3) := by decide +kernel
theorem dX8_init_29 : decode cX8_init 29 = .ok (.dup, 1) := by decide +kernel
theorem dX8_init_30 : decode cX8_init 30 = .ok (.invokespecial 15, 3) := by decide +kernel
theorem dX8_init_33 : decode cX8_init 33 = .ok (.aastore, 1) := by decide +kernel
theorem dX8_init_34 : decode cX8_init 34 = .ok (.iinc 1 1, 3) := by decide +kernel
theorem dX8_init_37 : decode cX8_init 37 = .ok (.goto (-22), 3) := by decide +kernel
theorem dX8_init_40 : decode cX8_init 40 = .ok (.aload_n 0, 1) := by decide +kernel
theorem dX8_init_41 : decode cX8_init 41 = .ok (.new 16, 3) := by decide +kernel
theorem dX8_init_44 : decode cX8_init 44 = .ok (.dup, 1) := by decide +kernel
theorem dX8_init_45 : decode cX8_init 45 = .ok (.invokespecial 18, 3) := by decide +kernel
theorem dX8_init_48 : decode cX8_init 48 = .ok (.putfield 19, 3) := by decide +kernel
theorem dX8_init_51 : decode cX8_init 51 = .ok (.aload_n 0, 1) := by decide +kernel
theorem dX8_init_52 : decode cX8_init 52 = .ok (.new 23, 3) := by decide +kernel
theorem dX8_init_55 : decode cX8_init 55 = .ok (.dup, 1) := by decide +kernel
theorem dX8_init_56 : decode cX8_init 56 = .ok (.invokespecial 25, 3) := by decide +kernel
theorem dX8_init_59 : decode cX8_init 59 = .ok (.putfield 26, 3) := by decide +kernel
theorem dX8_init_62 : decode cX8_init 62 = .ok (.new 30, 3) := by decide +kernel
theorem dX8_init_65 : decode cX8_init 65 = .ok (.dup, 1) := by decide +kernel
theorem dX8_init_66 : decode cX8_init 66 = .ok (.invokespecial 32, 3) := by decide +kernel
theorem dX8_init_69 : decode cX8_init 69 = .ok (.astore_n 1, 1) := by decide +kernel
theorem dX8_init_70 : decode cX8_init 70 = .ok (.aload_n 0, 1) := by decide +kernel
theorem dX8_init_71 : decode cX8_init 71 = .ok (.new 33, 3) := by decide +kernel
theorem dX8_init_74 : decode cX8_init 74 = .ok (.dup, 1) := by decide +kernel
theorem dX8_init_75 : decode cX8_init 75 = .ok (.aload_n 0, 1) := by decide +kernel
theorem dX8_init_76 : decode cX8_init 76 = .ok (.getfield 19, 3) := by decide +kernel
theorem dX8_init_79 : decode cX8_init 79 = .ok (.aload_n 1, 1) := by decide +kernel
theorem dX8_init_80 : decode cX8_init 80 = .ok (.invokespecial 35, 3) := by decide +kernel
theorem dX8_init_83 : decode cX8_init 83 = .ok (.putfield 38, 3) := by decide +kernel
theorem dX8_init_86 : decode cX8_init 86 = .ok (.aload_n 0, 1) := by decide +kernel
theorem dX8_init_87 : decode cX8_init 87 = .ok (.new 42, 3) := by decide +kernel
theorem dX8_init_90 : decode cX8_init 90 = .ok (.dup, 1) := by decide +kernel
theorem dX8_init_91 : decode cX8_init 91 = .ok (.aload_n 0, 1) := by decide +kernel
theorem dX8_init_92 : decode cX8_init 92 = .ok (.getfield 19, 3) := by decide +kernel
theorem dX8_init_95 : decode cX8_init 95 = .ok (.aload_n 1, 1) := by decide +kernel
theorem dX8_init_96 : decode cX8_init 96 = .ok (.invokespecial 44, 3) := by decide +kernel
theorem dX8_init_99 : decode cX8_init 99 = .ok (.putfield 45, 3) := by decide +kernel
theorem dX8_init_102 : decode cX8_init 102 = .ok (.aload_n 0, 1) := by decide +kernel
theorem dX8_init_103 : decode cX8_init 103 = .ok (.new 49, 3) := by decide +kernel
theorem dX8_init_106 : decode cX8_init 106 = .ok (.dup, 1) := by decide +kernel
theorem dX8_init_107 : decode cX8_init 107 = .ok (.aload_n 0, 1) := by decide +kernel
theorem dX8_init_108 : decode cX8_init 108 = .ok (.getfield 19, 3) := by decide +kernel
theorem dX8_init_111 : decode cX8_init 111 = .ok (.invokespecial 51, 3) := by decide +kernel
theorem dX8_init_114 : decode cX8_init 114 = .ok (.putfield 54, 3) := by decide +kernel
theorem dX8_init_117 : decode cX8_init 117 = .ok (.aload_n 0, 1) := by decide +kernel
theorem dX8_init_118 : decode cX8_init 118 = .ok (.bipush 8, 2) := by decide +kernel
theorem dX8_init_120 : decode cX8_init 120 = .ok (.newarray .int, 2) := by decide +kernel
theorem dX8_init_122 : decode cX8_init 122 = .ok (.putfield 58, 3) := by decide +kernel
theorem dX8_init_125 : decode cX8_init 125 = .ok (.aload_n 0, 1) := by decide +kernel
theorem dX8_init_126 : decode cX8_init 126 = .ok (.new 62, 3) := by decide +kernel
theorem dX8_init_129 : decode cX8_init 129 = .ok (.dup, 1) := by decide +kernel
theorem dX8_init_130 : decode cX8_init 130 = .ok (.aload_n 0, 1) := by decide +kernel
theorem dX8_init_131 : decode cX8_init 131 = .ok (.getfield 19, 3) := by decide +kernel
theorem dX8_init_134 : decode cX8_init 134 = .ok (.invokespecial 64, 3) := by decide +kernel
theorem dX8_init_137 : decode cX8_init 137 = .ok (.putfield 65, 3) := by decide +kernel
theorem dX8_init_140 : decode cX8_init 140 = .ok (.aload_n 0, 1) := by decide +kernel
theorem dX8_init_141 : decode cX8_init 141 = .ok (.new 62, 3) := by decide +kernel
theorem dX8_init_144 : decode cX8_init 144 = .ok (.dup, 1) := by decide +kernel
theorem dX8_init_145 : decode cX8_init 145 = .ok (.aload_n 0, 1) := by decide +kernel
theorem dX8_init_146 : decode cX8_init 146 = .ok (.getfield 19, 3) := by decide +kernel
theorem dX8_init_149 : decode cX8_init 149 = .ok (.invokespecial 64, 3) := by decide +kernel
theorem dX8_init_152 : decode cX8_init 152 = .ok (.putfield 69, 3) := by decide +kernel
theorem dX8_init_155 : decode cX8_init 155 = .ok (.aload_n 0, 1) := by decide +kernel
theorem dX8_init_156 : decode cX8_init 156 = .ok (.iconst 0, 1) := by decide +kernel
theorem dX8_init_157 : decode cX8_init 157 = .ok (.putfield 72, 3) := by decide +kernel
theorem dX8_init_160 : decode cX8_init 160 = .ok (.return_, 1) := by decide +kernel
theorem dX8_reel_0 : decode cX8_reel 0 = .ok (.iload_n 1, 1) := by decide +kernel
theorem dX8_reel_1 : decode cX8_reel 1 = .ok (.invokestatic 76, 3) := by decide +kernel
theorem dX8_reel_4 : decode cX8_reel 4 = .ok (.ifCond .eq 16, 3) := by decide +kernel
theorem dX8_reel_7 : decode cX8_reel 7 = .ok (.iload_n 2, 1) := by decide +kernel
theorem dX8_reel_8 : decode cX8_reel 8 = .ok (.invokestatic 80, 3) := by decide +kernel
theorem dX8_reel_11 : decode cX8_reel 11 = .ok (.ifCond .eq 9, 3) := by decide +kernel
theorem dX8_reel_14 : decode cX8_reel 14 = .ok (.iload_n 3, 1) := by decide +kernel
theorem dX8_reel_15 : decode cX8_reel 15 = .ok (.bipush 60, 2) := by decide +kernel
theorem dX8_reel_17 : decode cX8_reel 17 = .ok (.if_icmp .le 6, 3) := by decide +kernel
theorem dX8_reel_20 : decode cX8_reel 20 = .ok (.bipush (-2), 2) := by decide +kernel
theorem dX8_reel_22 : decode cX8_reel 22 = .ok (.ireturn, 1) := by decide +kernel
theorem dX8_reel_23 : decode cX8_reel 23 = .ok (.iload_n 3, 1) := by decide +kernel
theorem dX8_reel_24 : decode cX8_reel 24 = .ok (.ifCond .ge 9, 3) := by decide +kernel
theorem dX8_reel_27 : decode cX8_reel 27 = .ok (.aload_n 0, 1) := by decide +kernel
theorem dX8_reel_28 : decode cX8_reel 28 = .ok (.iconst 5, 1) := by decide +kernel
theorem dX8_reel_29 : decode cX8_reel 29 = .ok (.invokevirtual 83, 3) := by decide +kernel
theorem dX8_reel_32 : decode cX8_reel 32 = .ok (.ireturn, 1) := by decide +kernel
theorem dX8_reel_33 : decode cX8_reel 33 = .ok (.aload_n 0, 1) := by decide +kernel
theorem dX8_reel_34 : decode cX8_reel 34 = .ok (.getfield 11, 3) := by decide +kernel
theorem dX8_reel_37 : decode cX8_reel 37 = .ok (.iload_n 1, 1) := by decide +kernel
theorem dX8_reel_38 : decode cX8_reel 38 = .ok (.aaload, 1) := by decide +kernel
theorem dX8_reel_39 : decode cX8_reel 39 = .ok (.iload_n 2, 1) := by decide +kernel
theorem dX8_reel_40 : decode cX8_reel 40 = .ok (.iload_n 3, 1) := by decide +kernel
theorem dX8_reel_41 : decode cX8_reel 41 = .ok (.invokevirtual 87, 3) := by decide +kernel
theorem dX8_reel_44 : decode cX8_reel 44 = .ok (.iload_n 3, 1) := by decide +kernel
theorem dX8_reel_45 : decode cX8_reel 45 = .ok (.ireturn, 1) := by decide +kernel
theorem dX8_lose_0 : decode cX8_lose 0 = .ok (.iload_n 1, 1) := by decide +kernel
theorem dX8_lose_1 : decode cX8_lose 1 = .ok (.invokestatic 76, 3) := by decide +kernel
theorem dX8_lose_4 : decode cX8_lose 4 = .ok (.ifCond .ne 6, 3) := by decide +kernel
theorem dX8_lose_7 : decode cX8_lose 7 = .ok (.bipush (-2), 2) := by decide +kernel
theorem dX8_lose_9 : decode cX8_lose 9 = .ok (.ireturn, 1) := by decide +kernel
theorem dX8_lose_10 : decode cX8_lose 10 = .ok (.aload_n 0, 1) := by decide +kernel
theorem dX8_lose_11 : decode cX8_lose 11 = .ok (.getfield 11, 3) := by decide +kernel
theorem dX8_lose_14 : decode cX8_lose 14 = .ok (.iload_n 1, 1) := by decide +kernel
theorem dX8_lose_15 : decode cX8_lose 15 = .ok (.aaload, 1) := by decide +kernel
theorem dX8_lose_16 : decode cX8_lose 16 = .ok (.getfield 91, 3) := by decide +kernel
