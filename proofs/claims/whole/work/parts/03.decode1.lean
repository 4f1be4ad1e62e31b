theorem dX8_lose_19 : decode cX8_lose 19 = .ok (.ifCond .eq 9, 3) := by decide +kernel
theorem dX8_lose_22 : decode cX8_lose 22 = .ok (.aload_n 0, 1) := by decide +kernel
theorem dX8_lose_23 : decode cX8_lose 23 = .ok (.iconst 1, 1) := by decide +kernel
theorem dX8_lose_24 : decode cX8_lose 24 = .ok (.invokevirtual 83, 3) := by decide +kernel
theorem dX8_lose_27 : decode cX8_lose 27 = .ok (.ireturn, 1) := by decide +kernel
theorem dX8_lose_28 : decode cX8_lose 28 = .ok (.aload_n 0, 1) := by decide +kernel
theorem dX8_lose_29 : decode cX8_lose 29 = .ok (.getfield 11, 3) := by decide +kernel
theorem dX8_lose_32 : decode cX8_lose 32 = .ok (.iload_n 1, 1) := by decide +kernel
theorem dX8_lose_33 : decode cX8_lose 33 = .ok (.aaload, 1) := by decide +kernel
theorem dX8_lose_34 : decode cX8_lose 34 = .ok (.iconst 1, 1) := by decide +kernel
theorem dX8_lose_35 : decode cX8_lose 35 = .ok (.putfield 91, 3) := by decide +kernel
theorem dX8_lose_38 : decode cX8_lose 38 = .ok (.aload_n 0, 1) := by decide +kernel
theorem dX8_lose_39 : decode cX8_lose 39 = .ok (.getfield 11, 3) := by decide +kernel
theorem dX8_lose_42 : decode cX8_lose 42 = .ok (.iload_n 1, 1) := by decide +kernel
theorem dX8_lose_43 : decode cX8_lose 43 = .ok (.aaload, 1) := by decide +kernel
theorem dX8_lose_44 : decode cX8_lose 44 = .ok (.getfield 95, 3) := by decide +kernel
theorem dX8_lose_47 : decode cX8_lose 47 = .ok (.ireturn, 1) := by decide +kernel
theorem dX8_put_0 : decode cX8_put 0 = .ok (.aload_n 0, 1) := by decide +kernel
theorem dX8_put_1 : decode cX8_put 1 = .ok (.iload_n 1, 1) := by decide +kernel
theorem dX8_put_2 : decode cX8_put 2 = .ok (.iload_n 2, 1) := by decide +kernel
theorem dX8_put_3 : decode cX8_put 3 = .ok (.iload_n 3, 1) := by decide +kernel
theorem dX8_put_4 : decode cX8_put 4 = .ok (.invokevirtual 98, 3) := by decide +kernel
theorem dX8_put_7 : decode cX8_put 7 = .ok (.istore 6, 2) := by decide +kernel
theorem dX8_put_9 : decode cX8_put 9 = .ok (.iload 6, 2) := by decide +kernel
theorem dX8_put_11 : decode cX8_put 11 = .ok (.ifCond .eq 6, 3) := by decide +kernel
theorem dX8_put_14 : decode cX8_put 14 = .ok (.iload 6, 2) := by decide +kernel
theorem dX8_put_16 : decode cX8_put 16 = .ok (.ireturn, 1) := by decide +kernel
theorem dX8_put_17 : decode cX8_put 17 = .ok (.aload_n 0, 1) := by decide +kernel
theorem dX8_put_18 : decode cX8_put 18 = .ok (.getfield 11, 3) := by decide +kernel
theorem dX8_put_21 : decode cX8_put 21 = .ok (.iload_n 1, 1) := by decide +kernel
theorem dX8_put_22 : decode cX8_put 22 = .ok (.aaload, 1) := by decide +kernel
theorem dX8_put_23 : decode cX8_put 23 = .ok (.getfield 102, 3) := by decide +kernel
theorem dX8_put_26 : decode cX8_put 26 = .ok (.iload_n 3, 1) := by decide +kernel
theorem dX8_put_27 : decode cX8_put 27 = .ok (.iload_n 2, 1) := by decide +kernel
theorem dX8_put_28 : decode cX8_put 28 = .ok (.lload 4, 2) := by decide +kernel
theorem dX8_put_30 : decode cX8_put 30 = .ok (.invokestatic 106, 3) := by decide +kernel
theorem dX8_put_33 : decode cX8_put 33 = .ok (.lastore, 1) := by decide +kernel
theorem dX8_put_34 : decode cX8_put 34 = .ok (.iconst 1, 1) := by decide +kernel
theorem dX8_put_35 : decode cX8_put 35 = .ok (.ireturn, 1) := by decide +kernel
theorem dX8_get_0 : decode cX8_get 0 = .ok (.aload_n 0, 1) := by decide +kernel
theorem dX8_get_1 : decode cX8_get 1 = .ok (.iload_n 1, 1) := by decide +kernel
theorem dX8_get_2 : decode cX8_get 2 = .ok (.iload_n 2, 1) := by decide +kernel
theorem dX8_get_3 : decode cX8_get 3 = .ok (.iload_n 3, 1) := by decide +kernel
theorem dX8_get_4 : decode cX8_get 4 = .ok (.invokevirtual 98, 3) := by decide +kernel
theorem dX8_get_7 : decode cX8_get 7 = .ok (.ifCond .eq 5, 3) := by decide +kernel
theorem dX8_get_10 : decode cX8_get 10 = .ok (.lconst 0, 1) := by decide +kernel
theorem dX8_get_11 : decode cX8_get 11 = .ok (.lreturn, 1) := by decide +kernel
theorem dX8_get_12 : decode cX8_get 12 = .ok (.aload_n 0, 1) := by decide +kernel
theorem dX8_get_13 : decode cX8_get 13 = .ok (.getfield 11, 3) := by decide +kernel
theorem dX8_get_16 : decode cX8_get 16 = .ok (.iload_n 1, 1) := by decide +kernel
theorem dX8_get_17 : decode cX8_get 17 = .ok (.aaload, 1) := by decide +kernel
theorem dX8_get_18 : decode cX8_get 18 = .ok (.getfield 102, 3) := by decide +kernel
theorem dX8_get_21 : decode cX8_get 21 = .ok (.iload_n 3, 1) := by decide +kernel
theorem dX8_get_22 : decode cX8_get 22 = .ok (.laload, 1) := by decide +kernel
theorem dX8_get_23 : decode cX8_get 23 = .ok (.lreturn, 1) := by decide +kernel
theorem dX8_copy_0 : decode cX8_copy 0 = .ok (.iload_n 1, 1) := by decide +kernel
theorem dX8_copy_1 : decode cX8_copy 1 = .ok (.invokestatic 76, 3) := by decide +kernel
theorem dX8_copy_4 : decode cX8_copy 4 = .ok (.ifCond .eq 10, 3) := by decide +kernel
theorem dX8_copy_7 : decode cX8_copy 7 = .ok (.iload_n 3, 1) := by decide +kernel
theorem dX8_copy_8 : decode cX8_copy 8 = .ok (.invokestatic 76, 3) := by decide +kernel
theorem dX8_copy_11 : decode cX8_copy 11 = .ok (.ifCond .ne 6, 3) := by decide +kernel
theorem dX8_copy_14 : decode cX8_copy 14 = .ok (.bipush (-2), 2) := by decide +kernel
theorem dX8_copy_16 : decode cX8_copy 16 = .ok (.ireturn, 1) := by decide +kernel
theorem dX8_copy_17 : decode cX8_copy 17 = .ok (.aload_n 0, 1) := by decide +kernel
theorem dX8_copy_18 : decode cX8_copy 18 = .ok (.getfield 11, 3) := by decide +kernel
theorem dX8_copy_21 : decode cX8_copy 21 = .ok (.iload_n 1, 1) := by decide +kernel
theorem dX8_copy_22 : decode cX8_copy 22 = .ok (.aaload, 1) := by decide +kernel
theorem dX8_copy_23 : decode cX8_copy 23 = .ok (.astore 6, 2) := by decide +kernel
theorem dX8_copy_25 : decode cX8_copy 25 = .ok (.aload_n 0, 1) := by decide +kernel
theorem dX8_copy_26 : decode cX8_copy 26 = .ok (.getfield 11, 3) := by decide +kernel
theorem dX8_copy_29 : decode cX8_copy 29 = .ok (.iload_n 3, 1) := by decide +kernel
theorem dX8_copy_30 : decode cX8_copy 30 = .ok (.aaload, 1) := by decide +kernel
theorem dX8_copy_31 : decode cX8_copy 31 = .ok (.astore 7, 2) := by decide +kernel
theorem dX8_copy_33 : decode cX8_copy 33 = .ok (.aload 6, 2) := by decide +kernel
theorem dX8_copy_35 : decode cX8_copy 35 = .ok (.getfield 91, 3) := by decide +kernel
theorem dX8_copy_38 : decode cX8_copy 38 = .ok (.ifCond .ne 11, 3) := by decide +kernel
theorem dX8_copy_41 : decode cX8_copy 41 = .ok (.aload 7, 2) := by decide +kernel
theorem dX8_copy_43 : decode cX8_copy 43 = .ok (.getfield 91, 3) := by decide +kernel
theorem dX8_copy_46 : decode cX8_copy 46 = .ok (.ifCond .eq 9, 3) := by decide +kernel
theorem dX8_copy_49 : decode cX8_copy 49 = .ok (.aload_n 0, 1) := by decide +kernel
theorem dX8_copy_50 : decode cX8_copy 50 = .ok (.iconst 1, 1) := by decide +kernel
theorem dX8_copy_51 : decode cX8_copy 51 = .ok (.invokevirtual 83, 3) := by decide +kernel
theorem dX8_copy_54 : decode cX8_copy 54 = .ok (.ireturn, 1) := by decide +kernel
theorem dX8_copy_55 : decode cX8_copy 55 = .ok (.aload 6, 2) := by decide +kernel
theorem dX8_copy_57 : decode cX8_copy 57 = .ok (.getfield 110, 3) := by decide +kernel
theorem dX8_copy_60 : decode cX8_copy 60 = .ok (.aload 7, 2) := by decide +kernel
theorem dX8_copy_62 : decode cX8_copy 62 = .ok (.getfield 110, 3) := by decide +kernel
theorem dX8_copy_65 : decode cX8_copy 65 = .ok (.if_icmp .eq 9, 3) := by decide +kernel
theorem dX8_copy_68 : decode cX8_copy 68 = .ok (.aload_n 0, 1) := by decide +kernel
theorem dX8_copy_69 : decode cX8_copy 69 = .ok (.iconst 4, 1) := by decide +kernel
theorem dX8_copy_70 : decode cX8_copy 70 = .ok (.invokevirtual 83, 3) := by decide +kernel
theorem dX8_copy_73 : decode cX8_copy 73 = .ok (.ireturn, 1) := by decide +kernel
theorem dX8_copy_74 : decode cX8_copy 74 = .ok (.aload 6, 2) := by decide +kernel
theorem dX8_copy_76 : decode cX8_copy 76 = .ok (.iload_n 2, 1) := by decide +kernel
theorem dX8_copy_77 : decode cX8_copy 77 = .ok (.iload 5, 2) := by decide +kernel
theorem dX8_copy_79 : decode cX8_copy 79 = .ok (.invokevirtual 113, 3) := by decide +kernel
theorem dX8_copy_82 : decode cX8_copy 82 = .ok (.ifCond .eq 15, 3) := by decide +kernel
theorem dX8_copy_85 : decode cX8_copy 85 = .ok (.aload 7, 2) := by decide +kernel
theorem dX8_copy_87 : decode cX8_copy 87 = .ok (.iload 4, 2) := by decide +kernel
theorem dX8_copy_89 : decode cX8_copy 89 = .ok (.iload 5, 2) := by decide +kernel
theorem dX8_copy_91 : decode cX8_copy 91 = .ok (.invokevirtual 113, 3) := by decide +kernel
theorem dX8_copy_94 : decode cX8_copy 94 = .ok (.ifCond .ne 9, 3) := by decide +kernel
theorem dX8_copy_97 : decode cX8_copy 97 = .ok (.aload_n 0, 1) := by decide +kernel
theorem dX8_copy_98 : decode cX8_copy 98 = .ok (.iconst 2, 1) := by decide +kernel
theorem dX8_copy_99 : decode cX8_copy 99 = .ok (.invokevirtual 83, 3) := by decide +kernel
theorem dX8_copy_102 : decode cX8_copy 102 = .ok (.ireturn, 1) := by decide +kernel
theorem dX8_copy_103 : decode cX8_copy 103 = .ok (.aload 6, 2) := by decide +kernel
theorem dX8_copy_105 : decode cX8_copy 105 = .ok (.getfield 102, 3) := by decide +kernel
theorem dX8_copy_108 : decode cX8_copy 108 = .ok (.iload_n 2, 1) := by decide +kernel
theorem dX8_copy_109 : decode cX8_copy 109 = .ok (.aload 7, 2) := by decide +kernel
theorem dX8_copy_111 : decode cX8_copy 111 = .ok (.getfield 102, 3) := by decide +kernel
theorem dX8_copy_114 : decode cX8_copy 114 = .ok (.iload 4, 2) := by decide +kernel
theorem dX8_copy_116 : decode cX8_copy 116 = .ok (.iload 5, 2) := by decide +kernel
theorem dX8_copy_118 : decode cX8_copy 118 = .ok (.invokestatic 117, 3) := by decide +kernel
theorem dX8_copy_121 : decode cX8_copy 121 = .ok (.iconst 1, 1) := by decide +kernel
theorem dX8_copy_122 : decode cX8_copy 122 = .ok (.ireturn, 1) := by decide +kernel
theorem dX8_sample_0 : decode cX8_sample 0 = .ok (.iload_n 1, 1) := by decide +kernel
theorem dX8_sample_1 : decode cX8_sample 1 = .ok (.invokestatic 76, 3) := by decide +kernel
theorem dX8_sample_4 : decode cX8_sample 4 = .ok (.ifCond .ne 5, 3) := by decide +kernel
theorem dX8_sample_7 : decode cX8_sample 7 = .ok (.lconst 0, 1) := by decide +kernel
theorem dX8_sample_8 : decode cX8_sample 8 = .ok (.lreturn, 1) := by decide +kernel
theorem dX8_sample_9 : decode cX8_sample 9 = .ok (.aload_n 0, 1) := by decide +kernel
theorem dX8_sample_10 : decode cX8_sample 10 = .ok (.iload_n 1, 1) := by decide +kernel
theorem dX8_sample_11 : decode cX8_sample 11 = .ok (.iload_n 2, 1) := by decide +kernel
theorem dX8_sample_12 : decode cX8_sample 12 = .ok (.i2l, 1) := by decide +kernel
theorem dX8_sample_13 : decode cX8_sample 13 = .ok (.invokevirtual 123, 3) := by decide +kernel
theorem dX8_sample_16 : decode cX8_sample 16 = .ok (.ifCond .eq 5, 3) := by decide +kernel
theorem dX8_sample_19 : decode cX8_sample 19 = .ok (.lconst 0, 1) := by decide +kernel
theorem dX8_sample_20 : decode cX8_sample 20 = .ok (.lreturn, 1) := by decide +kernel
theorem dX8_sample_21 : decode cX8_sample 21 = .ok (.aload_n 0, 1) := by decide +kernel
theorem dX8_sample_22 : decode cX8_sample 22 = .ok (.getfield 11, 3) := by decide +kernel
theorem dX8_sample_25 : decode cX8_sample 25 = .ok (.iload_n 1, 1) := by decide +kernel
theorem dX8_sample_26 : decode cX8_sample 26 = .ok (.aaload, 1) := by decide +kernel
theorem dX8_sample_27 : decode cX8_sample 27 = .ok (.iload_n 2, 1) := by decide +kernel
theorem dX8_sample_28 : decode cX8_sample 28 = .ok (.aload_n 0, 1) := by decide +kernel
theorem dX8_sample_29 : decode cX8_sample 29 = .ok (.getfield 26, 3) := by decide +kernel
theorem dX8_sample_32 : decode cX8_sample 32 = .ok (.invokevirtual 127, 3) := by decide +kernel
theorem dX8_sample_35 : decode cX8_sample 35 = .ok (.invokevirtual 131, 3) := by decide +kernel
theorem dX8_sample_38 : decode cX8_sample 38 = .ok (.lreturn, 1) := by decide +kernel
theorem dX8_stage_0 : decode cX8_stage 0 = .ok (.iload_n 1, 1) := by decide +kernel
theorem dX8_stage_1 : decode cX8_stage 1 = .ok (.lload_n 2, 1) := by decide +kernel
theorem dX8_stage_2 : decode cX8_stage 2 = .ok (.iload 4, 2) := by decide +kernel
theorem dX8_stage_4 : decode cX8_stage 4 = .ok (.invokestatic 134, 3) := by decide +kernel
theorem dX8_stage_7 : decode cX8_stage 7 = .ok (.ifCond .ne 6, 3) := by decide +kernel
theorem dX8_stage_10 : decode cX8_stage 10 = .ok (.bipush (-2), 2) := by decide +kernel
theorem dX8_stage_12 : decode cX8_stage 12 = .ok (.ireturn, 1) := by decide +kernel
theorem dX8_stage_13 : decode cX8_stage 13 = .ok (.aload_n 0, 1) := by decide +kernel
theorem dX8_stage_14 : decode cX8_stage 14 = .ok (.getfield 26, 3) := by decide +kernel
theorem dX8_stage_17 : decode cX8_stage 17 = .ok (.getfield 138, 3) := by decide +kernel
theorem dX8_stage_20 : decode cX8_stage 20 = .ok (.ifCond .le 6, 3) := by decide +kernel
theorem dX8_stage_23 : decode cX8_stage 23 = .ok (.bipush (-3), 2) := by decide +kernel
theorem dX8_stage_25 : decode cX8_stage 25 = .ok (.ireturn, 1) := by decide +kernel
theorem dX8_stage_26 : decode cX8_stage 26 = .ok (.aload_n 0, 1) := by decide +kernel
theorem dX8_stage_27 : decode cX8_stage 27 = .ok (.getfield 19, 3) := by decide +kernel
theorem dX8_stage_30 : decode cX8_stage 30 = .ok (.getfield 141, 3) := by decide +kernel
theorem dX8_stage_33 : decode cX8_stage 33 = .ok (.iconst 5, 1) := by decide +kernel
theorem dX8_stage_34 : decode cX8_stage 34 = .ok (.if_icmp .lt 6, 3) := by decide +kernel
theorem dX8_stage_37 : decode cX8_stage 37 = .ok (.bipush (-4), 2) := by decide +kernel
theorem dX8_stage_39 : decode cX8_stage 39 = .ok (.ireturn, 1) := by decide +kernel
theorem dX8_stage_40 : decode cX8_stage 40 = .ok (.aload_n 0, 1) := by decide +kernel
theorem dX8_stage_41 : decode cX8_stage 41 = .ok (.getfield 19, 3) := by decide +kernel
theorem dX8_stage_44 : decode cX8_stage 44 = .ok (.iload_n 1, 1) := by decide +kernel
theorem dX8_stage_45 : decode cX8_stage 45 = .ok (.lload_n 2, 1) := by decide +kernel
theorem dX8_stage_46 : decode cX8_stage 46 = .ok (.iload 4, 2) := by decide +kernel
theorem dX8_stage_48 : decode cX8_stage 48 = .ok (.invokevirtual 144, 3) := by decide +kernel
theorem dX8_stage_51 : decode cX8_stage 51 = .ok (.ireturn, 1) := by decide +kernel
theorem dX8_levels_0 : decode cX8_levels 0 = .ok (.iload_n 1, 1) := by decide +kernel
theorem dX8_levels_1 : decode cX8_levels 1 = .ok (.iconst 2, 1) := by decide +kernel
theorem dX8_levels_2 : decode cX8_levels 2 = .ok (.if_icmp .lt 25, 3) := by decide +kernel
theorem dX8_levels_5 : decode cX8_levels 5 = .ok (.iload_n 1, 1) := by decide +kernel
theorem dX8_levels_6 : decode cX8_levels 6 = .ok (.bipush 16, 2) := by decide +kernel
theorem dX8_levels_8 : decode cX8_levels 8 = .ok (.if_icmp .gt 19, 3) := by decide +kernel
theorem dX8_levels_11 : decode cX8_levels 11 = .ok (.lload 4, 2) := by decide +kernel
theorem dX8_levels_13 : decode cX8_levels 13 = .ok (.lconst 1, 1) := by decide +kernel
theorem dX8_levels_14 : decode cX8_levels 14 = .ok (.lcmp, 1) := by decide +kernel
theorem dX8_levels_15 : decode cX8_levels 15 = .ok (.ifCond .lt 12, 3) := by decide +kernel
theorem dX8_levels_18 : decode cX8_levels 18 = .ok (.lload 4, 2) := by decide +kernel
theorem dX8_levels_20 : decode cX8_levels 20 = .ok (.ldc2_w 148, 3) := by decide +kernel
theorem dX8_levels_23 : decode cX8_levels 23 = .ok (.lcmp, 1) := by decide +kernel
theorem dX8_levels_24 : decode cX8_levels 24 = .ok (.ifCond .le 6, 3) := by decide +kernel
theorem dX8_levels_27 : decode cX8_levels 27 = .ok (.bipush (-2), 2) := by decide +kernel
theorem dX8_levels_29 : decode cX8_levels 29 = .ok (.ireturn, 1) := by decide +kernel
theorem dX8_levels_30 : decode cX8_levels 30 = .ok (.lload_n 2, 1) := by decide +kernel
theorem dX8_levels_31 : decode cX8_levels 31 = .ok (.invokestatic 150, 3) := by decide +kernel
theorem dX8_levels_34 : decode cX8_levels 34 = .ok (.ifCond .eq 18, 3) := by decide +kernel
theorem dX8_levels_37 : decode cX8_levels 37 = .ok (.lload_n 2, 1) := by decide +kernel
theorem dX8_levels_38 : decode cX8_levels 38 = .ok (.iload_n 1, 1) := by decide +kernel
theorem dX8_levels_39 : decode cX8_levels 39 = .ok (.iconst 1, 1) := by decide +kernel
theorem dX8_levels_40 : decode cX8_levels 40 = .ok (.isub, 1) := by decide +kernel
theorem dX8_levels_41 : decode cX8_levels 41 = .ok (.i2l, 1) := by decide +kernel
theorem dX8_levels_42 : decode cX8_levels 42 = .ok (.lload 4, 2) := by decide +kernel
theorem dX8_levels_44 : decode cX8_levels 44 = .ok (.lmul, 1) := by decide +kernel
theorem dX8_levels_45 : decode cX8_levels 45 = .ok (.ladd, 1) := by decide +kernel
theorem dX8_levels_46 : decode cX8_levels 46 = .ok (.invokestatic 150, 3) := by decide +kernel
theorem dX8_levels_49 : decode cX8_levels 49 = .ok (.ifCond .ne 6, 3) := by decide +kernel
theorem dX8_levels_52 : decode cX8_levels 52 = .ok (.bipush (-2), 2) := by decide +kernel
theorem dX8_levels_54 : decode cX8_levels 54 = .ok (.ireturn, 1) := by decide +kernel
theorem dX8_levels_55 : decode cX8_levels 55 = .ok (.aload_n 0, 1) := by decide +kernel
theorem dX8_levels_56 : decode cX8_levels 56 = .ok (.getfield 26, 3) := by decide +kernel
theorem dX8_levels_59 : decode cX8_levels 59 = .ok (.getfield 138, 3) := by decide +kernel
theorem dX8_levels_62 : decode cX8_levels 62 = .ok (.ifCond .le 6, 3) := by decide +kernel
theorem dX8_levels_65 : decode cX8_levels 65 = .ok (.bipush (-3), 2) := by decide +kernel
theorem dX8_levels_67 : decode cX8_levels 67 = .ok (.ireturn, 1) := by decide +kernel
theorem dX8_levels_68 : decode cX8_levels 68 = .ok (.aload_n 0, 1) := by decide +kernel
theorem dX8_levels_69 : decode cX8_levels 69 = .ok (.getfield 19, 3) := by decide +kernel
theorem dX8_levels_72 : decode cX8_levels 72 = .ok (.iload_n 1, 1) := by decide +kernel
theorem dX8_levels_73 : decode cX8_levels 73 = .ok (.lload_n 2, 1) := by decide +kernel
theorem dX8_levels_74 : decode cX8_levels 74 = .ok (.lload 4, 2) := by decide +kernel
theorem dX8_levels_76 : decode cX8_levels 76 = .ok (.invokevirtual 154, 3) := by decide +kernel
theorem dX8_levels_79 : decode cX8_levels 79 = .ok (.iconst 1, 1) := by decide +kernel
theorem dX8_levels_80 : decode cX8_levels 80 = .ok (.ireturn, 1) := by decide +kernel
theorem dX8_level_0 : decode cX8_level 0 = .ok (.aload_n 0, 1) := by decide +kernel
theorem dX8_level_1 : decode cX8_level 1 = .ok (.getfield 19, 3) := by decide +kernel
theorem dX8_level_4 : decode cX8_level 4 = .ok (.iload_n 1, 1) := by decide +kernel
theorem dX8_level_5 : decode cX8_level 5 = .ok (.invokevirtual 158, 3) := by decide +kernel
theorem dX8_level_8 : decode cX8_level 8 = .ok (.ifCond .eq 22, 3) := by decide +kernel
theorem dX8_level_11 : decode cX8_level 11 = .ok (.lload_n 2, 1) := by decide +kernel
theorem dX8_level_12 : decode cX8_level 12 = .ok (.invokestatic 150, 3) := by decide +kernel
theorem dX8_level_15 : decode cX8_level 15 = .ok (.ifCond .eq 15, 3) := by decide +kernel
theorem dX8_level_18 : decode cX8_level 18 = .ok (.aload_n 0, 1) := by decide +kernel
theorem dX8_level_19 : decode cX8_level 19 = .ok (.getfield 19, 3) := by decide +kernel
theorem dX8_level_22 : decode cX8_level 22 = .ok (.iload_n 1, 1) := by decide +kernel
theorem dX8_level_23 : decode cX8_level 23 = .ok (.lload_n 2, 1) := by decide +kernel
theorem dX8_level_24 : decode cX8_level 24 = .ok (.invokevirtual 161, 3) := by decide +kernel
theorem dX8_level_27 : decode cX8_level 27 = .ok (.ifCond .ne 6, 3) := by decide +kernel
theorem dX8_level_30 : decode cX8_level 30 = .ok (.bipush (-2), 2) := by decide +kernel
theorem dX8_level_32 : decode cX8_level 32 = .ok (.ireturn, 1) := by decide +kernel
theorem dX8_level_33 : decode cX8_level 33 = .ok (.aload_n 0, 1) := by decide +kernel
theorem dX8_level_34 : decode cX8_level 34 = .ok (.getfield 26, 3) := by decide +kernel
theorem dX8_level_37 : decode cX8_level 37 = .ok (.getfield 138, 3) := by decide +kernel
theorem dX8_level_40 : decode cX8_level 40 = .ok (.ifCond .le 6, 3) := by decide +kernel
theorem dX8_level_43 : decode cX8_level 43 = .ok (.bipush (-3), 2) := by decide +kernel
theorem dX8_level_45 : decode cX8_level 45 = .ok (.ireturn, 1) := by decide +kernel
theorem dX8_level_46 : decode cX8_level 46 = .ok (.aload_n 0, 1) := by decide +kernel
theorem dX8_level_47 : decode cX8_level 47 = .ok (.getfield 19, 3) := by decide +kernel
theorem dX8_level_50 : decode cX8_level 50 = .ok (.getfield 165, 3) := by decide +kernel
theorem dX8_level_53 : decode cX8_level 53 = .ok (.iload_n 1, 1) := by decide +kernel
theorem dX8_level_54 : decode cX8_level 54 = .ok (.lload_n 2, 1) := by decide +kernel
theorem dX8_level_55 : decode cX8_level 55 = .ok (.lastore, 1) := by decide +kernel
theorem dX8_level_56 : decode cX8_level 56 = .ok (.iconst 1, 1) := by decide +kernel
theorem dX8_level_57 : decode cX8_level 57 = .ok (.ireturn, 1) := by decide +kernel
theorem dX8_lot_0 : decode cX8_lot 0 = .ok (.iload_n 1, 1) := by decide +kernel
theorem dX8_lot_1 : decode cX8_lot 1 = .ok (.ifCond .lt 9, 3) := by decide +kernel
theorem dX8_lot_4 : decode cX8_lot 4 = .ok (.iload_n 1, 1) := by decide +kernel
theorem dX8_lot_5 : decode cX8_lot 5 = .ok (.ldc 168, 2) := by decide +kernel
theorem dX8_lot_7 : decode cX8_lot 7 = .ok (.if_icmp .le 6, 3) := by decide +kernel
theorem dX8_lot_10 : decode cX8_lot 10 = .ok (.bipush (-2), 2) := by decide +kernel
theorem dX8_lot_12 : decode cX8_lot 12 = .ok (.ireturn, 1) := by decide +kernel
theorem dX8_lot_13 : decode cX8_lot 13 = .ok (.aload_n 0, 1) := by decide +kernel
theorem dX8_lot_14 : decode cX8_lot 14 = .ok (.getfield 26, 3) := by decide +kernel
theorem dX8_lot_17 : decode cX8_lot 17 = .ok (.getfield 138, 3) := by decide +kernel
theorem dX8_lot_20 : decode cX8_lot 20 = .ok (.ifCond .le 6, 3) := by decide +kernel
theorem dX8_lot_23 : decode cX8_lot 23 = .ok (.bipush (-3), 2) := by decide +kernel
theorem dX8_lot_25 : decode cX8_lot 25 = .ok (.ireturn, 1) := by decide +kernel
theorem dX8_lot_26 : decode cX8_lot 26 = .ok (.aload_n 0, 1) := by decide +kernel
theorem dX8_lot_27 : decode cX8_lot 27 = .ok (.getfield 19, 3) := by decide +kernel
theorem dX8_lot_30 : decode cX8_lot 30 = .ok (.iload_n 1, 1) := by decide +kernel
theorem dX8_lot_31 : decode cX8_lot 31 = .ok (.putfield 169, 3) := by decide +kernel
theorem dX8_lot_34 : decode cX8_lot 34 = .ok (.aload_n 0, 1) := by decide +kernel
theorem dX8_lot_35 : decode cX8_lot 35 = .ok (.getfield 19, 3) := by decide +kernel
theorem dX8_lot_38 : decode cX8_lot 38 = .ok (.lload_n 2, 1) := by decide +kernel
theorem dX8_lot_39 : decode cX8_lot 39 = .ok (.putfield 172, 3) := by decide +kernel
theorem dX8_lot_42 : decode cX8_lot 42 = .ok (.aload_n 0, 1) := by decide +kernel
theorem dX8_lot_43 : decode cX8_lot 43 = .ok (.getfield 65, 3) := by decide +kernel
theorem dX8_lot_46 : decode cX8_lot 46 = .ok (.lload_n 2, 1) := by decide +kernel
theorem dX8_lot_47 : decode cX8_lot 47 = .ok (.putfield 176, 3) := by decide +kernel
theorem dX8_lot_50 : decode cX8_lot 50 = .ok (.iconst 1, 1) := by decide +kernel
theorem dX8_lot_51 : decode cX8_lot 51 = .ok (.ireturn, 1) := by decide +kernel
theorem dX8_step_0 : decode cX8_step 0 = .ok (.lload_n 1, 1) := by decide +kernel
theorem dX8_step_1 : decode cX8_step 1 = .ok (.invokestatic 150, 3) := by decide +kernel
theorem dX8_step_4 : decode cX8_step 4 = .ok (.ifCond .ne 6, 3) := by decide +kernel
theorem dX8_step_7 : decode cX8_step 7 = .ok (.bipush (-2), 2) := by decide +kernel
theorem dX8_step_9 : decode cX8_step 9 = .ok (.ireturn, 1) := by decide +kernel
theorem dX8_step_10 : decode cX8_step 10 = .ok (.aload_n 0, 1) := by decide +kernel
theorem dX8_step_11 : decode cX8_step 11 = .ok (.lload_n 1, 1) := by decide +kernel
theorem dX8_step_12 : decode cX8_step 12 = .ok (.invokevirtual 179, 3) := by decide +kernel
theorem dX8_step_15 : decode cX8_step 15 = .ok (.ireturn, 1) := by decide +kernel
theorem dX8_run_0 : decode cX8_run 0 = .ok (.iload_n 1, 1) := by decide +kernel
theorem dX8_run_1 : decode cX8_run 1 = .ok (.invokestatic 76, 3) := by decide +kernel
theorem dX8_run_4 : decode cX8_run 4 = .ok (.ifCond .eq 15, 3) := by decide +kernel
theorem dX8_run_7 : decode cX8_run 7 = .ok (.iload_n 3, 1) := by decide +kernel
theorem dX8_run_8 : decode cX8_run 8 = .ok (.iconst 1, 1) := by decide +kernel
theorem dX8_run_9 : decode cX8_run 9 = .ok (.if_icmp .lt 10, 3) := by decide +kernel
theorem dX8_run_12 : decode cX8_run 12 = .ok (.iload_n 3, 1) := by decide +kernel
theorem dX8_run_13 : decode cX8_run 13 = .ok (.sipush 300, 3) := by decide +kernel
theorem dX8_run_16 : decode cX8_run 16 = .ok (.if_icmp .le 6, 3) := by decide +kernel
theorem dX8_run_19 : decode cX8_run 19 = .ok (.bipush (-2), 2) := by decide +kernel
theorem dX8_run_21 : decode cX8_run 21 = .ok (.ireturn, 1) := by decide +kernel
theorem dX8_run_22 : decode cX8_run 22 = .ok (.iconst 0, 1) := by decide +kernel
theorem dX8_run_23 : decode cX8_run 23 = .ok (.istore 4, 2) := by decide +kernel
theorem dX8_run_25 : decode cX8_run 25 = .ok (.iload 4, 2) := by decide +kernel
theorem dX8_run_27 : decode cX8_run 27 = .ok (.iload_n 3, 1) := by decide +kernel
theorem dX8_run_28 : decode cX8_run 28 = .ok (.if_icmp .ge 64, 3) := by decide +kernel
theorem dX8_run_31 : decode cX8_run 31 = .ok (.iload_n 2, 1) := by decide +kernel
theorem dX8_run_32 : decode cX8_run 32 = .ok (.i2l, 1) := by decide +kernel
theorem dX8_run_33 : decode cX8_run 33 = .ok (.iload 4, 2) := by decide +kernel
theorem dX8_run_35 : decode cX8_run 35 = .ok (.i2l, 1) := by decide +kernel
theorem dX8_run_36 : decode cX8_run 36 = .ok (.ladd, 1) := by decide +kernel
theorem dX8_run_37 : decode cX8_run 37 = .ok (.lstore 5, 2) := by decide +kernel
theorem dX8_run_39 : decode cX8_run 39 = .ok (.aload_n 0, 1) := by decide +kernel
theorem dX8_run_40 : decode cX8_run 40 = .ok (.iload_n 1, 1) := by decide +kernel
theorem dX8_run_41 : decode cX8_run 41 = .ok (.lload 5, 2) := by decide +kernel
theorem dX8_run_43 : decode cX8_run 43 = .ok (.invokevirtual 123, 3) := by decide +kernel
theorem dX8_run_46 : decode cX8_run 46 = .ok (.istore 7, 2) := by decide +kernel
theorem dX8_run_48 : decode cX8_run 48 = .ok (.iload 7, 2) := by decide +kernel
theorem dX8_run_50 : decode cX8_run 50 = .ok (.ifCond .ne 28, 3) := by decide +kernel
theorem dX8_run_53 : decode cX8_run 53 = .ok (.aload_n 0, 1) := by decide +kernel
theorem dX8_run_54 : decode cX8_run 54 = .ok (.aload_n 0, 1) := by decide +kernel
theorem dX8_run_55 : decode cX8_run 55 = .ok (.getfield 11, 3) := by decide +kernel
theorem dX8_run_58 : decode cX8_run 58 = .ok (.iload_n 1, 1) := by decide +kernel
theorem dX8_run_59 : decode cX8_run 59 = .ok (.aaload, 1) := by decide +kernel
theorem dX8_run_60 : decode cX8_run 60 = .ok (.lload 5, 2) := by decide +kernel
theorem dX8_run_62 : decode cX8_run 62 = .ok (.l2i, 1) := by decide +kernel
theorem dX8_run_63 : decode cX8_run 63 = .ok (.aload_n 0, 1) := by decide +kernel
theorem dX8_run_64 : decode cX8_run 64 = .ok (.getfield 26, 3) := by decide +kernel
theorem dX8_run_67 : decode cX8_run 67 = .ok (.invokevirtual 127, 3) := by decide +kernel
theorem dX8_run_70 : decode cX8_run 70 = .ok (.invokevirtual 131, 3) := by decide +kernel
theorem dX8_run_73 : decode cX8_run 73 = .ok (.invokevirtual 179, 3) := by decide +kernel
theorem dX8_run_76 : decode cX8_run 76 = .ok (.istore 7, 2) := by decide +kernel
theorem dX8_run_78 : decode cX8_run 78 = .ok (.iload 7, 2) := by decide +kernel
theorem dX8_run_80 : decode cX8_run 80 = .ok (.ifCond .ge 6, 3) := by decide +kernel
theorem dX8_run_83 : decode cX8_run 83 = .ok (.iload 7, 2) := by decide +kernel
theorem dX8_run_85 : decode cX8_run 85 = .ok (.ireturn, 1) := by decide +kernel
theorem dX8_run_86 : decode cX8_run 86 = .ok (.iinc 4 1, 3) := by decide +kernel
theorem dX8_run_89 : decode cX8_run 89 = .ok (.goto (-64), 3) := by decide +kernel
theorem dX8_run_92 : decode cX8_run 92 = .ok (.aload_n 0, 1) := by decide +kernel
theorem dX8_run_93 : decode cX8_run 93 = .ok (.getfield 26, 3) := by decide +kernel
theorem dX8_run_96 : decode cX8_run 96 = .ok (.getfield 138, 3) := by decide +kernel
theorem dX8_run_99 : decode cX8_run 99 = .ok (.ireturn, 1) := by decide +kernel
theorem dX8_undo_0 : decode cX8_undo 0 = .ok (.iload_n 1, 1) := by decide +kernel
theorem dX8_undo_1 : decode cX8_undo 1 = .ok (.ifCond .lt 14, 3) := by decide +kernel
theorem dX8_undo_4 : decode cX8_undo 4 = .ok (.iload_n 1, 1) := by decide +kernel
theorem dX8_undo_5 : decode cX8_undo 5 = .ok (.aload_n 0, 1) := by decide +kernel
theorem dX8_undo_6 : decode cX8_undo 6 = .ok (.getfield 26, 3) := by decide +kernel
theorem dX8_undo_9 : decode cX8_undo 9 = .ok (.getfield 138, 3) := by decide +kernel
theorem dX8_undo_12 : decode cX8_undo 12 = .ok (.if_icmp .le 6, 3) := by decide +kernel
theorem dX8_undo_15 : decode cX8_undo 15 = .ok (.bipush (-2), 2) := by decide +kernel
theorem dX8_undo_17 : decode cX8_undo 17 = .ok (.ireturn, 1) := by decide +kernel
theorem dX8_undo_18 : decode cX8_undo 18 = .ok (.iload_n 1, 1) := by decide +kernel
theorem dX8_undo_19 : decode cX8_undo 19 = .ok (.ifCond .le 70, 3) := by decide +kernel
theorem dX8_undo_22 : decode cX8_undo 22 = .ok (.aload_n 0, 1) := by decide +kernel
theorem dX8_undo_23 : decode cX8_undo 23 = .ok (.getfield 26, 3) := by decide +kernel
theorem dX8_undo_26 : decode cX8_undo 26 = .ok (.dup, 1) := by decide +kernel
theorem dX8_undo_27 : decode cX8_undo 27 = .ok (.getfield 138, 3) := by decide +kernel
theorem dX8_undo_30 : decode cX8_undo 30 = .ok (.iload_n 1, 1) := by decide +kernel
theorem dX8_undo_31 : decode cX8_undo 31 = .ok (.isub, 1) := by decide +kernel
theorem dX8_undo_32 : decode cX8_undo 32 = .ok (.putfield 138, 3) := by decide +kernel
theorem dX8_undo_35 : decode cX8_undo 35 = .ok (.aload_n 0, 1) := by decide +kernel
theorem dX8_undo_36 : decode cX8_undo 36 = .ok (.getfield 69, 3) := by decide +kernel
theorem dX8_undo_39 : decode cX8_undo 39 = .ok (.invokevirtual 183, 3) := by decide +kernel
theorem dX8_undo_42 : decode cX8_undo 42 = .ok (.iconst 0, 1) := by decide +kernel
theorem dX8_undo_43 : decode cX8_undo 43 = .ok (.istore_n 2, 1) := by decide +kernel
theorem dX8_undo_44 : decode cX8_undo 44 = .ok (.iload_n 2, 1) := by decide +kernel
theorem dX8_undo_45 : decode cX8_undo 45 = .ok (.aload_n 0, 1) := by decide +kernel
theorem dX8_undo_46 : decode cX8_undo 46 = .ok (.getfield 26, 3) := by decide +kernel
theorem dX8_undo_49 : decode cX8_undo 49 = .ok (.getfield 138, 3) := by decide +kernel
theorem dX8_undo_52 : decode cX8_undo 52 = .ok (.if_icmp .ge 26, 3) := by decide +kernel
theorem dX8_undo_55 : decode cX8_undo 55 = .ok (.aload_n 0, 1) := by decide +kernel
theorem dX8_undo_56 : decode cX8_undo 56 = .ok (.getfield 69, 3) := by decide +kernel
theorem dX8_undo_59 : decode cX8_undo 59 = .ok (.aload_n 0, 1) := by decide +kernel
theorem dX8_undo_60 : decode cX8_undo 60 = .ok (.getfield 26, 3) := by decide +kernel
theorem dX8_undo_63 : decode cX8_undo 63 = .ok (.getfield 186, 3) := by decide +kernel
theorem dX8_undo_66 : decode cX8_undo 66 = .ok (.iload_n 2, 1) := by decide +kernel
theorem dX8_undo_67 : decode cX8_undo 67 = .ok (.laload, 1) := by decide +kernel
theorem dX8_undo_68 : decode cX8_undo 68 = .ok (.invokevirtual 189, 3) := by decide +kernel
theorem dX8_undo_71 : decode cX8_undo 71 = .ok (.pop, 1) := by decide +kernel
theorem dX8_undo_72 : decode cX8_undo 72 = .ok (.iinc 2 1, 3) := by decide +kernel
theorem dX8_undo_75 : decode cX8_undo 75 = .ok (.goto (-31), 3) := by decide +kernel
theorem dX8_undo_78 : decode cX8_undo 78 = .ok (.aload_n 0, 1) := by decide +kernel
theorem dX8_undo_79 : decode cX8_undo 79 = .ok (.getfield 65, 3) := by decide +kernel
theorem dX8_undo_82 : decode cX8_undo 82 = .ok (.aload_n 0, 1) := by decide +kernel
theorem dX8_undo_83 : decode cX8_undo 83 = .ok (.getfield 69, 3) := by decide +kernel
theorem dX8_undo_86 : decode cX8_undo 86 = .ok (.invokevirtual 192, 3) := by decide +kernel
theorem dX8_undo_89 : decode cX8_undo 89 = .ok (.aload_n 0, 1) := by decide +kernel
theorem dX8_undo_90 : decode cX8_undo 90 = .ok (.getfield 26, 3) := by decide +kernel
theorem dX8_undo_93 : decode cX8_undo 93 = .ok (.getfield 138, 3) := by decide +kernel
theorem dX8_undo_96 : decode cX8_undo 96 = .ok (.ireturn, 1) := by decide +kernel
theorem dX8_clear_0 : decode cX8_clear 0 = .ok (.aload_n 0, 1) := by decide +kernel
theorem dX8_clear_1 : decode cX8_clear 1 = .ok (.getfield 26, 3) := by decide +kernel
theorem dX8_clear_4 : decode cX8_clear 4 = .ok (.getfield 138, 3) := by decide +kernel
theorem dX8_clear_7 : decode cX8_clear 7 = .ok (.istore_n 1, 1) := by decide +kernel
theorem dX8_clear_8 : decode cX8_clear 8 = .ok (.aload_n 0, 1) := by decide +kernel
theorem dX8_clear_9 : decode cX8_clear 9 = .ok (.getfield 26, 3) := by decide +kernel
theorem dX8_clear_12 : decode cX8_clear 12 = .ok (.iconst 0, 1) := by decide +kernel
theorem dX8_clear_13 : decode cX8_clear 13 = .ok (.putfield 138, 3) := by decide +kernel
theorem dX8_clear_16 : decode cX8_clear 16 = .ok (.aload_n 0, 1) := by decide +kernel
theorem dX8_clear_17 : decode cX8_clear 17 = .ok (.getfield 19, 3) := by decide +kernel
theorem dX8_clear_20 : decode cX8_clear 20 = .ok (.iconst 0, 1) := by decide +kernel
theorem dX8_clear_21 : decode cX8_clear 21 = .ok (.putfield 141, 3) := by decide +kernel
theorem dX8_clear_24 : decode cX8_clear 24 = .ok (.aload_n 0, 1) := by decide +kernel
theorem dX8_clear_25 : decode cX8_clear 25 = .ok (.getfield 65, 3) := by decide +kernel
theorem dX8_clear_28 : decode cX8_clear 28 = .ok (.invokevirtual 183, 3) := by decide +kernel
theorem dX8_clear_31 : decode cX8_clear 31 = .ok (.iload_n 1, 1) := by decide +kernel
theorem dX8_clear_32 : decode cX8_clear 32 = .ok (.ireturn, 1) := by decide +kernel
theorem dX8_stageAt_0 : decode cX8_stageAt 0 = .ok (.aload_n 0, 1) := by decide +kernel
theorem dX8_stageAt_1 : decode cX8_stageAt 1 = .ok (.getfield 19, 3) := by decide +kernel
theorem dX8_stageAt_4 : decode cX8_stageAt 4 = .ok (.iload_n 1, 1) := by decide +kernel
theorem dX8_stageAt_5 : decode cX8_stageAt 5 = .ok (.invokevirtual 196, 3) := by decide +kernel
theorem dX8_stageAt_8 : decode cX8_stageAt 8 = .ok (.ifCond .eq 13, 3) := by decide +kernel
theorem dX8_stageAt_11 : decode cX8_stageAt 11 = .ok (.iload_n 2, 1) := by decide +kernel
theorem dX8_stageAt_12 : decode cX8_stageAt 12 = .ok (.ifCond .lt 9, 3) := by decide +kernel
theorem dX8_stageAt_15 : decode cX8_stageAt 15 = .ok (.iload_n 2, 1) := by decide +kernel
theorem dX8_stageAt_16 : decode cX8_stageAt 16 = .ok (.bipush 6, 2) := by decide +kernel
theorem dX8_stageAt_18 : decode cX8_stageAt 18 = .ok (.if_icmp .le 7, 3) := by decide +kernel
theorem dX8_stageAt_21 : decode cX8_stageAt 21 = .ok (.ldc2_w 199, 3) := by decide +kernel
theorem dX8_stageAt_24 : decode cX8_stageAt 24 = .ok (.lreturn, 1) := by decide +kernel
theorem dX8_stageAt_25 : decode cX8_stageAt 25 = .ok (.iload_n 2, 1) := by decide +kernel
theorem dX8_stageAt_26 : decode cX8_stageAt 26 = .ok (.bipush 6, 2) := by decide +kernel
theorem dX8_stageAt_28 : decode cX8_stageAt 28 = .ok (.if_icmp .ne 16, 3) := by decide +kernel
theorem dX8_stageAt_31 : decode cX8_stageAt 31 = .ok (.aload_n 0, 1) := by decide +kernel
theorem dX8_stageAt_32 : decode cX8_stageAt 32 = .ok (.getfield 19, 3) := by decide +kernel
theorem dX8_stageAt_35 : decode cX8_stageAt 35 = .ok (.getfield 201, 3) := by decide +kernel
theorem dX8_stageAt_38 : decode cX8_stageAt 38 = .ok (.iload_n 1, 1) := by decide +kernel
theorem dX8_stageAt_39 : decode cX8_stageAt 39 = .ok (.iaload, 1) := by decide +kernel
theorem dX8_stageAt_40 : decode cX8_stageAt 40 = .ok (.i2l, 1) := by decide +kernel
theorem dX8_stageAt_41 : decode cX8_stageAt 41 = .ok (.goto 17, 3) := by decide +kernel
theorem dX8_stageAt_44 : decode cX8_stageAt 44 = .ok (.aload_n 0, 1) := by decide +kernel
theorem dX8_stageAt_45 : decode cX8_stageAt 45 = .ok (.getfield 65, 3) := by decide +kernel
theorem dX8_stageAt_48 : decode cX8_stageAt 48 = .ok (.getfield 204, 3) := by decide +kernel
theorem dX8_stageAt_51 : decode cX8_stageAt 51 = .ok (.iload_n 1, 1) := by decide +kernel
theorem dX8_stageAt_52 : decode cX8_stageAt 52 = .ok (.bipush 6, 2) := by decide +kernel
theorem dX8_stageAt_54 : decode cX8_stageAt 54 = .ok (.imul, 1) := by decide +kernel
theorem dX8_stageAt_55 : decode cX8_stageAt 55 = .ok (.iload_n 2, 1) := by decide +kernel
theorem dX8_stageAt_56 : decode cX8_stageAt 56 = .ok (.iadd, 1) := by decide +kernel
theorem dX8_stageAt_57 : decode cX8_stageAt 57 = .ok (.laload, 1) := by decide +kernel
theorem dX8_stageAt_58 : decode cX8_stageAt 58 = .ok (.lreturn, 1) := by decide +kernel
theorem dX8_levelAt_0 : decode cX8_levelAt 0 = .ok (.aload_n 0, 1) := by decide +kernel
theorem dX8_levelAt_1 : decode cX8_levelAt 1 = .ok (.getfield 19, 3) := by decide +kernel
theorem dX8_levelAt_4 : decode cX8_levelAt 4 = .ok (.iload_n 1, 1) := by decide +kernel
theorem dX8_levelAt_5 : decode cX8_levelAt 5 = .ok (.invokevirtual 158, 3) := by decide +kernel
theorem dX8_levelAt_8 : decode cX8_levelAt 8 = .ok (.ifCond .eq 15, 3) := by decide +kernel
theorem dX8_levelAt_11 : decode cX8_levelAt 11 = .ok (.aload_n 0, 1) := by decide +kernel
theorem dX8_levelAt_12 : decode cX8_levelAt 12 = .ok (.getfield 19, 3) := by decide +kernel
theorem dX8_levelAt_15 : decode cX8_levelAt 15 = .ok (.getfield 165, 3) := by decide +kernel
theorem dX8_levelAt_18 : decode cX8_levelAt 18 = .ok (.iload_n 1, 1) := by decide +kernel
theorem dX8_levelAt_19 : decode cX8_levelAt 19 = .ok (.laload, 1) := by decide +kernel
theorem dX8_levelAt_20 : decode cX8_levelAt 20 = .ok (.goto 6, 3) := by decide +kernel
theorem dX8_levelAt_23 : decode cX8_levelAt 23 = .ok (.ldc2_w 199, 3) := by decide +kernel
theorem dX8_levelAt_26 : decode cX8_levelAt 26 = .ok (.lreturn, 1) := by decide +kernel
theorem dX8_record_0 : decode cX8_record 0 = .ok (.aload_n 0, 1) := by decide +kernel
theorem dX8_record_1 : decode cX8_record 1 = .ok (.iload_n 1, 1) := by decide +kernel
theorem dX8_record_2 : decode cX8_record 2 = .ok (.iload_n 2, 1) := by decide +kernel
theorem dX8_record_3 : decode cX8_record 3 = .ok (.invokevirtual 207, 3) := by decide +kernel
theorem dX8_record_6 : decode cX8_record 6 = .ok (.ifCond .ne 7, 3) := by decide +kernel
theorem dX8_record_9 : decode cX8_record 9 = .ok (.ldc2_w 199, 3) := by decide +kernel
theorem dX8_record_12 : decode cX8_record 12 = .ok (.lreturn, 1) := by decide +kernel
theorem dX8_record_13 : decode cX8_record 13 = .ok (.aload_n 0, 1) := by decide +kernel
theorem dX8_record_14 : decode cX8_record 14 = .ok (.getfield 26, 3) := by decide +kernel
theorem dX8_record_17 : decode cX8_record 17 = .ok (.getfield 210, 3) := by decide +kernel
theorem dX8_record_20 : decode cX8_record 20 = .ok (.iload_n 1, 1) := by decide +kernel
theorem dX8_record_21 : decode cX8_record 21 = .ok (.bipush 7, 2) := by decide +kernel
theorem dX8_record_23 : decode cX8_record 23 = .ok (.imul, 1) := by decide +kernel
theorem dX8_record_24 : decode cX8_record 24 = .ok (.iload_n 2, 1) := by decide +kernel
theorem dX8_record_25 : decode cX8_record 25 = .ok (.iadd, 1) := by decide +kernel
theorem dX8_record_26 : decode cX8_record 26 = .ok (.laload, 1) := by decide +kernel
theorem dX8_record_27 : decode cX8_record 27 = .ok (.lreturn, 1) := by decide +kernel
theorem dX8_forge_0 : decode cX8_forge 0 = .ok (.aload_n 0, 1) := by decide +kernel
theorem dX8_forge_1 : decode cX8_forge 1 = .ok (.iload_n 1, 1) := by decide +kernel
theorem dX8_forge_2 : decode cX8_forge 2 = .ok (.iload_n 2, 1) := by decide +kernel
theorem dX8_forge_3 : decode cX8_forge 3 = .ok (.invokevirtual 207, 3) := by decide +kernel
theorem dX8_forge_6 : decode cX8_forge 6 = .ok (.ifCond .eq 14, 3) := by decide +kernel
theorem dX8_forge_9 : decode cX8_forge 9 = .ok (.iload_n 2, 1) := by decide +kernel
theorem dX8_forge_10 : decode cX8_forge 10 = .ok (.ifCond .ne 13, 3) := by decide +kernel
theorem dX8_forge_13 : decode cX8_forge 13 = .ok (.lload_n 3, 1) := by decide +kernel
theorem dX8_forge_14 : decode cX8_forge 14 = .ok (.invokestatic 150, 3) := by decide +kernel
theorem dX8_forge_17 : decode cX8_forge 17 = .ok (.ifCond .ne 6, 3) := by decide +kernel
theorem dX8_forge_20 : decode cX8_forge 20 = .ok (.bipush (-2), 2) := by decide +kernel
theorem dX8_forge_22 : decode cX8_forge 22 = .ok (.ireturn, 1) := by decide +kernel
theorem dX8_forge_23 : decode cX8_forge 23 = .ok (.aload_n 0, 1) := by decide +kernel
theorem dX8_forge_24 : decode cX8_forge 24 = .ok (.getfield 26, 3) := by decide +kernel
theorem dX8_forge_27 : decode cX8_forge 27 = .ok (.getfield 210, 3) := by decide +kernel
theorem dX8_forge_30 : decode cX8_forge 30 = .ok (.iload_n 1, 1) := by decide +kernel
theorem dX8_forge_31 : decode cX8_forge 31 = .ok (.bipush 7, 2) := by decide +kernel
theorem dX8_forge_33 : decode cX8_forge 33 = .ok (.imul, 1) := by decide +kernel
theorem dX8_forge_34 : decode cX8_forge 34 = .ok (.iload_n 2, 1) := by decide +kernel
theorem dX8_forge_35 : decode cX8_forge 35 = .ok (.iadd, 1) := by decide +kernel
theorem dX8_forge_36 : decode cX8_forge 36 = .ok (.lload_n 3, 1) := by decide +kernel
theorem dX8_forge_37 : decode cX8_forge 37 = .ok (.lastore, 1) := by decide +kernel
theorem dX8_forge_38 : decode cX8_forge 38 = .ok (.iconst 1, 1) := by decide +kernel
theorem dX8_forge_39 : decode cX8_forge 39 = .ok (.ireturn, 1) := by decide +kernel
theorem dX8_check_0 : decode cX8_check 0 = .ok (.aload_n 0, 1) := by decide +kernel
theorem dX8_check_1 : decode cX8_check 1 = .ok (.getfield 69, 3) := by decide +kernel
theorem dX8_check_4 : decode cX8_check 4 = .ok (.invokevirtual 183, 3) := by decide +kernel
theorem dX8_check_7 : decode cX8_check 7 = .ok (.iconst 0, 1) := by decide +kernel
theorem dX8_check_8 : decode cX8_check 8 = .ok (.istore_n 1, 1) := by decide +kernel
theorem dX8_check_9 : decode cX8_check 9 = .ok (.iload_n 1, 1) := by decide +kernel
theorem dX8_check_10 : decode cX8_check 10 = .ok (.aload_n 0, 1) := by decide +kernel
theorem dX8_check_11 : decode cX8_check 11 = .ok (.getfield 26, 3) := by decide +kernel
theorem dX8_check_14 : decode cX8_check 14 = .ok (.getfield 138, 3) := by decide +kernel
theorem dX8_check_17 : decode cX8_check 17 = .ok (.if_icmp .ge 50, 3) := by decide +kernel
theorem dX8_check_20 : decode cX8_check 20 = .ok (.aload_n 0, 1) := by decide +kernel
theorem dX8_check_21 : decode cX8_check 21 = .ok (.getfield 69, 3) := by decide +kernel
theorem dX8_check_24 : decode cX8_check 24 = .ok (.aload_n 0, 1) := by decide +kernel
theorem dX8_check_25 : decode cX8_check 25 = .ok (.getfield 26, 3) := by decide +kernel
theorem dX8_check_28 : decode cX8_check 28 = .ok (.getfield 210, 3) := by decide +kernel
theorem dX8_check_31 : decode cX8_check 31 = .ok (.iload_n 1, 1) := by decide +kernel
theorem dX8_check_32 : decode cX8_check 32 = .ok (.bipush 7, 2) := by decide +kernel
theorem dX8_check_34 : decode cX8_check 34 = .ok (.imul, 1) := by decide +kernel
theorem dX8_check_35 : decode cX8_check 35 = .ok (.iconst 0, 1) := by decide +kernel
theorem dX8_check_36 : decode cX8_check 36 = .ok (.iadd, 1) := by decide +kernel
theorem dX8_check_37 : decode cX8_check 37 = .ok (.laload, 1) := by decide +kernel
theorem dX8_check_38 : decode cX8_check 38 = .ok (.invokevirtual 189, 3) := by decide +kernel
theorem dX8_check_41 : decode cX8_check 41 = .ok (.ifCond .eq 18, 3) := by decide +kernel
theorem dX8_check_44 : decode cX8_check 44 = .ok (.aload_n 0, 1) := by decide +kernel
theorem dX8_check_45 : decode cX8_check 45 = .ok (.getfield 26, 3) := by decide +kernel
theorem dX8_check_48 : decode cX8_check 48 = .ok (.iload_n 1, 1) := by decide +kernel
theorem dX8_check_49 : decode cX8_check 49 = .ok (.aload_n 0, 1) := by decide +kernel
theorem dX8_check_50 : decode cX8_check 50 = .ok (.getfield 69, 3) := by decide +kernel
theorem dX8_check_53 : decode cX8_check 53 = .ok (.invokevirtual 211, 3) := by decide +kernel
theorem dX8_check_56 : decode cX8_check 56 = .ok (.ifCond .ne 5, 3) := by decide +kernel
theorem dX8_check_59 : decode cX8_check 59 = .ok (.iload_n 1, 1) := by decide +kernel
theorem dX8_check_60 : decode cX8_check 60 = .ok (.ireturn, 1) := by decide +kernel
theorem dX8_check_61 : decode cX8_check 61 = .ok (.iinc 1 1, 3) := by decide +kernel
theorem dX8_check_64 : decode cX8_check 64 = .ok (.goto (-55), 3) := by decide +kernel
theorem dX8_check_67 : decode cX8_check 67 = .ok (.iconst (-1), 1) := by decide +kernel
theorem dX8_check_68 : decode cX8_check 68 = .ok (.ireturn, 1) := by decide +kernel
theorem dX8_read_0 : decode cX8_read 0 = .ok (.aload_n 0, 1) := by decide +kernel
theorem dX8_read_1 : decode cX8_read 1 = .ok (.getfield 26, 3) := by decide +kernel
theorem dX8_read_4 : decode cX8_read 4 = .ok (.iload_n 1, 1) := by decide +kernel
theorem dX8_read_5 : decode cX8_read 5 = .ok (.invokevirtual 215, 3) := by decide +kernel
theorem dX8_read_8 : decode cX8_read 8 = .ok (.ifCond .ne 5, 3) := by decide +kernel
theorem dX8_read_11 : decode cX8_read 11 = .ok (.lconst 0, 1) := by decide +kernel
theorem dX8_read_12 : decode cX8_read 12 = .ok (.lreturn, 1) := by decide +kernel
theorem dX8_read_13 : decode cX8_read 13 = .ok (.lconst 0, 1) := by decide +kernel
theorem dX8_read_14 : decode cX8_read 14 = .ok (.lstore_n 2, 1) := by decide +kernel
theorem dX8_read_15 : decode cX8_read 15 = .ok (.iconst 0, 1) := by decide +kernel
theorem dX8_read_16 : decode cX8_read 16 = .ok (.istore 4, 2) := by decide +kernel
theorem dX8_read_18 : decode cX8_read 18 = .ok (.iload 4, 2) := by decide +kernel
theorem dX8_read_20 : decode cX8_read 20 = .ok (.bipush 8, 2) := by decide +kernel
theorem dX8_read_22 : decode cX8_read 22 = .ok (.if_icmp .ge 38, 3) := by decide +kernel
theorem dX8_read_25 : decode cX8_read 25 = .ok (.iload 4, 2) := by decide +kernel
theorem dX8_read_27 : decode cX8_read 27 = .ok (.iload_n 1, 1) := by decide +kernel
theorem dX8_read_28 : decode cX8_read 28 = .ok (.if_icmp .gt 32, 3) := by decide +kernel
theorem dX8_read_31 : decode cX8_read 31 = .ok (.lload_n 2, 1) := by decide +kernel
theorem dX8_read_32 : decode cX8_read 32 = .ok (.aload_n 0, 1) := by decide +kernel
theorem dX8_read_33 : decode cX8_read 33 = .ok (.getfield 58, 3) := by decide +kernel
theorem dX8_read_36 : decode cX8_read 36 = .ok (.iload 4, 2) := by decide +kernel
theorem dX8_read_38 : decode cX8_read 38 = .ok (.iaload, 1) := by decide +kernel
theorem dX8_read_39 : decode cX8_read 39 = .ok (.i2l, 1) := by decide +kernel
theorem dX8_read_40 : decode cX8_read 40 = .ok (.aload_n 0, 1) := by decide +kernel
theorem dX8_read_41 : decode cX8_read 41 = .ok (.getfield 26, 3) := by decide +kernel
theorem dX8_read_44 : decode cX8_read 44 = .ok (.iload_n 1, 1) := by decide +kernel
theorem dX8_read_45 : decode cX8_read 45 = .ok (.iload 4, 2) := by decide +kernel
theorem dX8_read_47 : decode cX8_read 47 = .ok (.isub, 1) := by decide +kernel
theorem dX8_read_48 : decode cX8_read 48 = .ok (.invokevirtual 218, 3) := by decide +kernel
theorem dX8_read_51 : decode cX8_read 51 = .ok (.lmul, 1) := by decide +kernel
theorem dX8_read_52 : decode cX8_read 52 = .ok (.ladd, 1) := by decide +kernel
theorem dX8_read_53 : decode cX8_read 53 = .ok (.lstore_n 2, 1) := by decide +kernel
theorem dX8_read_54 : decode cX8_read 54 = .ok (.iinc 4 1, 3) := by decide +kernel
theorem dX8_read_57 : decode cX8_read 57 = .ok (.goto (-39), 3) := by decide +kernel
theorem dX8_read_60 : decode cX8_read 60 = .ok (.lload_n 2, 1) := by decide +kernel
theorem dX8_read_61 : decode cX8_read 61 = .ok (.lreturn, 1) := by decide +kernel
theorem dX8_weight_0 : decode cX8_weight 0 = .ok (.iload_n 1, 1) := by decide +kernel
theorem dX8_weight_1 : decode cX8_weight 1 = .ok (.ifCond .lt 9, 3) := by decide +kernel
theorem dX8_weight_4 : decode cX8_weight 4 = .ok (.iload_n 1, 1) := by decide +kernel
theorem dX8_weight_5 : decode cX8_weight 5 = .ok (.bipush 8, 2) := by decide +kernel
theorem dX8_weight_7 : decode cX8_weight 7 = .ok (.if_icmp .lt 6, 3) := by decide +kernel
theorem dX8_weight_10 : decode cX8_weight 10 = .ok (.ldc 222, 2) := by decide +kernel
theorem dX8_weight_12 : decode cX8_weight 12 = .ok (.ireturn, 1) := by decide +kernel
theorem dX8_weight_13 : decode cX8_weight 13 = .ok (.aload_n 0, 1) := by decide +kernel
theorem dX8_weight_14 : decode cX8_weight 14 = .ok (.getfield 58, 3) := by decide +kernel
theorem dX8_weight_17 : decode cX8_weight 17 = .ok (.iload_n 1, 1) := by decide +kernel
theorem dX8_weight_18 : decode cX8_weight 18 = .ok (.iaload, 1) := by decide +kernel
theorem dX8_weight_19 : decode cX8_weight 19 = .ok (.istore_n 3, 1) := by decide +kernel
theorem dX8_weight_20 : decode cX8_weight 20 = .ok (.aload_n 0, 1) := by decide +kernel
theorem dX8_weight_21 : decode cX8_weight 21 = .ok (.getfield 58, 3) := by decide +kernel
theorem dX8_weight_24 : decode cX8_weight 24 = .ok (.iload_n 1, 1) := by decide +kernel
theorem dX8_weight_25 : decode cX8_weight 25 = .ok (.iload_n 2, 1) := by decide +kernel
theorem dX8_weight_26 : decode cX8_weight 26 = .ok (.iastore, 1) := by decide +kernel
theorem dX8_weight_27 : decode cX8_weight 27 = .ok (.iload_n 3, 1) := by decide +kernel
theorem dX8_weight_28 : decode cX8_weight 28 = .ok (.ireturn, 1) := by decide +kernel
theorem dX8_sums_0 : decode cX8_sums 0 = .ok (.iload_n 1, 1) := by decide +kernel
theorem dX8_sums_1 : decode cX8_sums 1 = .ok (.iconst 1, 1) := by decide +kernel
theorem dX8_sums_2 : decode cX8_sums 2 = .ok (.if_icmp .lt 19, 3) := by decide +kernel
theorem dX8_sums_5 : decode cX8_sums 5 = .ok (.iload_n 1, 1) := by decide +kernel
theorem dX8_sums_6 : decode cX8_sums 6 = .ok (.iconst 4, 1) := by decide +kernel
theorem dX8_sums_7 : decode cX8_sums 7 = .ok (.if_icmp .gt 14, 3) := by decide +kernel
theorem dX8_sums_10 : decode cX8_sums 10 = .ok (.aload_n 0, 1) := by decide +kernel
theorem dX8_sums_11 : decode cX8_sums 11 = .ok (.getfield 26, 3) := by decide +kernel
theorem dX8_sums_14 : decode cX8_sums 14 = .ok (.iload_n 2, 1) := by decide +kernel
theorem dX8_sums_15 : decode cX8_sums 15 = .ok (.invokevirtual 215, 3) := by decide +kernel
theorem dX8_sums_18 : decode cX8_sums 18 = .ok (.ifCond .ne 5, 3) := by decide +kernel
theorem dX8_sums_21 : decode cX8_sums 21 = .ok (.lconst 0, 1) := by decide +kernel
theorem dX8_sums_22 : decode cX8_sums 22 = .ok (.lreturn, 1) := by decide +kernel
theorem dX8_sums_23 : decode cX8_sums 23 = .ok (.aload_n 0, 1) := by decide +kernel
theorem dX8_sums_24 : decode cX8_sums 24 = .ok (.getfield 26, 3) := by decide +kernel
theorem dX8_sums_27 : decode cX8_sums 27 = .ok (.iload_n 1, 1) := by decide +kernel
theorem dX8_sums_28 : decode cX8_sums 28 = .ok (.iload_n 2, 1) := by decide +kernel
theorem dX8_sums_29 : decode cX8_sums 29 = .ok (.invokevirtual 223, 3) := by decide +kernel
theorem dX8_sums_32 : decode cX8_sums 32 = .ok (.lreturn, 1) := by decide +kernel
theorem dX8_trace_0 : decode cX8_trace 0 = .ok (.iload_n 1, 1) := by decide +kernel
theorem dX8_trace_1 : decode cX8_trace 1 = .ok (.ifCond .lt 26, 3) := by decide +kernel
theorem dX8_trace_4 : decode cX8_trace 4 = .ok (.iload_n 1, 1) := by decide +kernel
theorem dX8_trace_5 : decode cX8_trace 5 = .ok (.aload_n 0, 1) := by decide +kernel
theorem dX8_trace_6 : decode cX8_trace 6 = .ok (.getfield 65, 3) := by decide +kernel
theorem dX8_trace_9 : decode cX8_trace 9 = .ok (.getfield 227, 3) := by decide +kernel
theorem dX8_trace_12 : decode cX8_trace 12 = .ok (.if_icmp .ge 15, 3) := by decide +kernel
theorem dX8_trace_15 : decode cX8_trace 15 = .ok (.aload_n 0, 1) := by decide +kernel
theorem dX8_trace_16 : decode cX8_trace 16 = .ok (.getfield 65, 3) := by decide +kernel
theorem dX8_trace_19 : decode cX8_trace 19 = .ok (.getfield 230, 3) := by decide +kernel
theorem dX8_trace_22 : decode cX8_trace 22 = .ok (.iload_n 1, 1) := by decide +kernel
theorem dX8_trace_23 : decode cX8_trace 23 = .ok (.iaload, 1) := by decide +kernel
theorem dX8_trace_24 : decode cX8_trace 24 = .ok (.goto 4, 3) := by decide +kernel
theorem dX8_trace_27 : decode cX8_trace 27 = .ok (.iconst (-1), 1) := by decide +kernel
theorem dX8_trace_28 : decode cX8_trace 28 = .ok (.ireturn, 1) := by decide +kernel
theorem dX8_hold_0 : decode cX8_hold 0 = .ok (.lload_n 1, 1) := by decide +kernel
theorem dX8_hold_1 : decode cX8_hold 1 = .ok (.invokestatic 150, 3) := by decide +kernel
theorem dX8_hold_4 : decode cX8_hold 4 = .ok (.ifCond .eq 15, 3) := by decide +kernel
theorem dX8_hold_7 : decode cX8_hold 7 = .ok (.iload_n 3, 1) := by decide +kernel
theorem dX8_hold_8 : decode cX8_hold 8 = .ok (.iconst 1, 1) := by decide +kernel
theorem dX8_hold_9 : decode cX8_hold 9 = .ok (.if_icmp .lt 10, 3) := by decide +kernel
theorem dX8_hold_12 : decode cX8_hold 12 = .ok (.iload_n 3, 1) := by decide +kernel
theorem dX8_hold_13 : decode cX8_hold 13 = .ok (.sipush 400, 3) := by decide +kernel
theorem dX8_hold_16 : decode cX8_hold 16 = .ok (.if_icmp .le 6, 3) := by decide +kernel
theorem dX8_hold_19 : decode cX8_hold 19 = .ok (.bipush (-2), 2) := by decide +kernel
theorem dX8_hold_21 : decode cX8_hold 21 = .ok (.ireturn, 1) := by decide +kernel
theorem dX8_hold_22 : decode cX8_hold 22 = .ok (.aload_n 0, 1) := by decide +kernel
theorem dX8_hold_23 : decode cX8_hold 23 = .ok (.getfield 69, 3) := by decide +kernel
theorem dX8_hold_26 : decode cX8_hold 26 = .ok (.aload_n 0, 1) := by decide +kernel
theorem dX8_hold_27 : decode cX8_hold 27 = .ok (.getfield 65, 3) := by decide +kernel
theorem dX8_hold_30 : decode cX8_hold 30 = .ok (.invokevirtual 192, 3) := by decide +kernel
theorem dX8_hold_33 : decode cX8_hold 33 = .ok (.aload_n 0, 1) := by decide +kernel
theorem dX8_hold_34 : decode cX8_hold 34 = .ok (.getfield 38, 3) := by decide +kernel
theorem dX8_hold_37 : decode cX8_hold 37 = .ok (.aload_n 0, 1) := by decide +kernel
theorem dX8_hold_38 : decode cX8_hold 38 = .ok (.getfield 69, 3) := by decide +kernel
theorem dX8_hold_41 : decode cX8_hold 41 = .ok (.lload_n 1, 1) := by decide +kernel
theorem dX8_hold_42 : decode cX8_hold 42 = .ok (.iload_n 3, 1) := by decide +kernel
theorem dX8_hold_43 : decode cX8_hold 43 = .ok (.invokevirtual 233, 3) := by decide +kernel
theorem dX8_hold_46 : decode cX8_hold 46 = .ok (.ireturn, 1) := by decide +kernel
theorem dX8_held_0 : decode cX8_held 0 = .ok (.iload_n 1, 1) := by decide +kernel
theorem dX8_held_1 : decode cX8_held 1 = .ok (.tableswitch 53 0 2 #[27, 36, 45], 27) := by decide +kernel
theorem dX8_held_28 : decode cX8_held 28 = .ok (.aload_n 0, 1) := by decide +kernel
theorem dX8_held_29 : decode cX8_held 29 = .ok (.getfield 38, 3) := by decide +kernel
theorem dX8_held_32 : decode cX8_held 32 = .ok (.getfield 237, 3) := by decide +kernel
theorem dX8_held_35 : decode cX8_held 35 = .ok (.i2l, 1) := by decide +kernel
theorem dX8_held_36 : decode cX8_held 36 = .ok (.lreturn, 1) := by decide +kernel
theorem dX8_held_37 : decode cX8_held 37 = .ok (.aload_n 0, 1) := by decide +kernel
theorem dX8_held_38 : decode cX8_held 38 = .ok (.getfield 38, 3) := by decide +kernel
theorem dX8_held_41 : decode cX8_held 41 = .ok (.getfield 240, 3) := by decide +kernel
theorem dX8_held_44 : decode cX8_held 44 = .ok (.i2l, 1) := by decide +kernel
theorem dX8_held_45 : decode cX8_held 45 = .ok (.lreturn, 1) := by decide +kernel
theorem dX8_held_46 : decode cX8_held 46 = .ok (.aload_n 0, 1) := by decide +kernel
theorem dX8_held_47 : decode cX8_held 47 = .ok (.getfield 38, 3) := by decide +kernel
theorem dX8_held_50 : decode cX8_held 50 = .ok (.getfield 243, 3) := by decide +kernel
theorem dX8_held_53 : decode cX8_held 53 = .ok (.lreturn, 1) := by decide +kernel
theorem dX8_held_54 : decode cX8_held 54 = .ok (.ldc2_w 199, 3) := by decide +kernel
theorem dX8_held_57 : decode cX8_held 57 = .ok (.lreturn, 1) := by decide +kernel
theorem dX8_reach_0 : decode cX8_reach 0 = .ok (.lload_n 1, 1) := by decide +kernel
theorem dX8_reach_1 : decode cX8_reach 1 = .ok (.invokestatic 150, 3) := by decide +kernel
theorem dX8_reach_4 : decode cX8_reach 4 = .ok (.ifCond .eq 26, 3) := by decide +kernel
theorem dX8_reach_7 : decode cX8_reach 7 = .ok (.lload_n 3, 1) := by decide +kernel
theorem dX8_reach_8 : decode cX8_reach 8 = .ok (.invokestatic 150, 3) := by decide +kernel
theorem dX8_reach_11 : decode cX8_reach 11 = .ok (.ifCond .eq 19, 3) := by decide +kernel
theorem dX8_reach_14 : decode cX8_reach 14 = .ok (.lload_n 3, 1) := by decide +kernel
theorem dX8_reach_15 : decode cX8_reach 15 = .ok (.lload_n 1, 1) := by decide +kernel
theorem dX8_reach_16 : decode cX8_reach 16 = .ok (.lcmp, 1) := by decide +kernel
theorem dX8_reach_17 : decode cX8_reach 17 = .ok (.ifCond .lt 13, 3) := by decide +kernel
theorem dX8_reach_20 : decode cX8_reach 20 = .ok (.lload_n 3, 1) := by decide +kernel
theorem dX8_reach_21 : decode cX8_reach 21 = .ok (.lload_n 1, 1) := by decide +kernel
theorem dX8_reach_22 : decode cX8_reach 22 = .ok (.lsub, 1) := by decide +kernel
theorem dX8_reach_23 : decode cX8_reach 23 = .ok (.ldc2_w 246, 3) := by decide +kernel
theorem dX8_reach_26 : decode cX8_reach 26 = .ok (.lcmp, 1) := by decide +kernel
theorem dX8_reach_27 : decode cX8_reach 27 = .ok (.ifCond .le 6, 3) := by decide +kernel
theorem dX8_reach_30 : decode cX8_reach 30 = .ok (.bipush (-2), 2) := by decide +kernel
theorem dX8_reach_32 : decode cX8_reach 32 = .ok (.ireturn, 1) := by decide +kernel
theorem dX8_reach_33 : decode cX8_reach 33 = .ok (.lload 5, 2) := by decide +kernel
theorem dX8_reach_35 : decode cX8_reach 35 = .ok (.lconst 1, 1) := by decide +kernel
theorem dX8_reach_36 : decode cX8_reach 36 = .ok (.lcmp, 1) := by decide +kernel
theorem dX8_reach_37 : decode cX8_reach 37 = .ok (.ifCond .lt 12, 3) := by decide +kernel
theorem dX8_reach_40 : decode cX8_reach 40 = .ok (.lload 5, 2) := by decide +kernel
theorem dX8_reach_42 : decode cX8_reach 42 = .ok (.ldc2_w 248, 3) := by decide +kernel
theorem dX8_reach_45 : decode cX8_reach 45 = .ok (.lcmp, 1) := by decide +kernel
theorem dX8_reach_46 : decode cX8_reach 46 = .ok (.ifCond .le 6, 3) := by decide +kernel
theorem dX8_reach_49 : decode cX8_reach 49 = .ok (.bipush (-2), 2) := by decide +kernel
theorem dX8_reach_51 : decode cX8_reach 51 = .ok (.ireturn, 1) := by decide +kernel
theorem dX8_reach_52 : decode cX8_reach 52 = .ok (.aload_n 0, 1) := by decide +kernel
theorem dX8_reach_53 : decode cX8_reach 53 = .ok (.invokevirtual 250, 3) := by decide +kernel
theorem dX8_reach_56 : decode cX8_reach 56 = .ok (.ifCond .ne 6, 3) := by decide +kernel
theorem dX8_reach_59 : decode cX8_reach 59 = .ok (.bipush (-7), 2) := by decide +kernel
theorem dX8_reach_61 : decode cX8_reach 61 = .ok (.ireturn, 1) := by decide +kernel
theorem dX8_reach_62 : decode cX8_reach 62 = .ok (.aload_n 0, 1) := by decide +kernel
theorem dX8_reach_63 : decode cX8_reach 63 = .ok (.getfield 69, 3) := by decide +kernel
theorem dX8_reach_66 : decode cX8_reach 66 = .ok (.aload_n 0, 1) := by decide +kernel
theorem dX8_reach_67 : decode cX8_reach 67 = .ok (.getfield 65, 3) := by decide +kernel
theorem dX8_reach_70 : decode cX8_reach 70 = .ok (.invokevirtual 192, 3) := by decide +kernel
theorem dX8_reach_73 : decode cX8_reach 73 = .ok (.aload_n 0, 1) := by decide +kernel
theorem dX8_reach_74 : decode cX8_reach 74 = .ok (.getfield 45, 3) := by decide +kernel
theorem dX8_reach_77 : decode cX8_reach 77 = .ok (.aload_n 0, 1) := by decide +kernel
theorem dX8_reach_78 : decode cX8_reach 78 = .ok (.getfield 69, 3) := by decide +kernel
theorem dX8_reach_81 : decode cX8_reach 81 = .ok (.lload_n 1, 1) := by decide +kernel
theorem dX8_reach_82 : decode cX8_reach 82 = .ok (.lload_n 3, 1) := by decide +kernel
theorem dX8_reach_83 : decode cX8_reach 83 = .ok (.lload 5, 2) := by decide +kernel
theorem dX8_reach_85 : decode cX8_reach 85 = .ok (.invokevirtual 254, 3) := by decide +kernel
theorem dX8_reach_88 : decode cX8_reach 88 = .ok (.ireturn, 1) := by decide +kernel
theorem dX8_leaving_0 : decode cX8_leaving 0 = .ok (.iload_n 1, 1) := by decide +kernel
theorem dX8_leaving_1 : decode cX8_leaving 1 = .ok (.ifCond .lt 26, 3) := by decide +kernel
theorem dX8_leaving_4 : decode cX8_leaving 4 = .ok (.iload_n 1, 1) := by decide +kernel
theorem dX8_leaving_5 : decode cX8_leaving 5 = .ok (.aload_n 0, 1) := by decide +kernel
theorem dX8_leaving_6 : decode cX8_leaving 6 = .ok (.getfield 45, 3) := by decide +kernel
theorem dX8_leaving_9 : decode cX8_leaving 9 = .ok (.getfield 258, 3) := by decide +kernel
theorem dX8_leaving_12 : decode cX8_leaving 12 = .ok (.if_icmp .ge 15, 3) := by decide +kernel
theorem dX8_leaving_15 : decode cX8_leaving 15 = .ok (.aload_n 0, 1) := by decide +kernel
theorem dX8_leaving_16 : decode cX8_leaving 16 = .ok (.getfield 45, 3) := by decide +kernel
theorem dX8_leaving_19 : decode cX8_leaving 19 = .ok (.getfield 261, 3) := by decide +kernel
theorem dX8_leaving_22 : decode cX8_leaving 22 = .ok (.iload_n 1, 1) := by decide +kernel
theorem dX8_leaving_23 : decode cX8_leaving 23 = .ok (.laload, 1) := by decide +kernel
theorem dX8_leaving_24 : decode cX8_leaving 24 = .ok (.goto 4, 3) := by decide +kernel
theorem dX8_leaving_27 : decode cX8_leaving 27 = .ok (.lconst 0, 1) := by decide +kernel
theorem dX8_leaving_28 : decode cX8_leaving 28 = .ok (.lreturn, 1) := by decide +kernel
theorem dX8_worst_0 : decode cX8_worst 0 = .ok (.iconst 0, 1) := by decide +kernel
theorem dX8_worst_1 : decode cX8_worst 1 = .ok (.istore 6, 2) := by decide +kernel
theorem dX8_worst_3 : decode cX8_worst 3 = .ok (.iload_n 1, 1) := by decide +kernel
theorem dX8_worst_4 : decode cX8_worst 4 = .ok (.iconst 1, 1) := by decide +kernel
theorem dX8_worst_5 : decode cX8_worst 5 = .ok (.if_icmp .lt 24, 3) := by decide +kernel
theorem dX8_worst_8 : decode cX8_worst 8 = .ok (.iload_n 1, 1) := by decide +kernel
theorem dX8_worst_9 : decode cX8_worst 9 = .ok (.bipush 12, 2) := by decide +kernel
theorem dX8_worst_11 : decode cX8_worst 11 = .ok (.if_icmp .gt 18, 3) := by decide +kernel
theorem dX8_worst_14 : decode cX8_worst 14 = .ok (.lload_n 2, 1) := by decide +kernel
theorem dX8_worst_15 : decode cX8_worst 15 = .ok (.invokestatic 150, 3) := by decide +kernel
theorem dX8_worst_18 : decode cX8_worst 18 = .ok (.ifCond .eq 11, 3) := by decide +kernel
theorem dX8_worst_21 : decode cX8_worst 21 = .ok (.lload 4, 2) := by decide +kernel
theorem dX8_worst_23 : decode cX8_worst 23 = .ok (.invokestatic 150, 3) := by decide +kernel
theorem dX8_worst_26 : decode cX8_worst 26 = .ok (.ifCond .ne 10, 3) := by decide +kernel
theorem dX8_worst_29 : decode cX8_worst 29 = .ok (.bipush (-2), 2) := by decide +kernel
theorem dX8_worst_31 : decode cX8_worst 31 = .ok (.istore 6, 2) := by decide +kernel
theorem dX8_worst_33 : decode cX8_worst 33 = .ok (.goto 48, 3) := by decide +kernel
theorem dX8_worst_36 : decode cX8_worst 36 = .ok (.aload_n 0, 1) := by decide +kernel
theorem dX8_worst_37 : decode cX8_worst 37 = .ok (.getfield 19, 3) := by decide +kernel
theorem dX8_worst_40 : decode cX8_worst 40 = .ok (.getfield 141, 3) := by decide +kernel
theorem dX8_worst_43 : decode cX8_worst 43 = .ok (.ifCond .eq 13, 3) := by decide +kernel
theorem dX8_worst_46 : decode cX8_worst 46 = .ok (.aload_n 0, 1) := by decide +kernel
theorem dX8_worst_47 : decode cX8_worst 47 = .ok (.getfield 19, 3) := by decide +kernel
theorem dX8_worst_50 : decode cX8_worst 50 = .ok (.getfield 169, 3) := by decide +kernel
theorem dX8_worst_53 : decode cX8_worst 53 = .ok (.ifCond .eq 10, 3) := by decide +kernel
theorem dX8_worst_56 : decode cX8_worst 56 = .ok (.bipush (-7), 2) := by decide +kernel
theorem dX8_worst_58 : decode cX8_worst 58 = .ok (.istore 6, 2) := by decide +kernel
theorem dX8_worst_60 : decode cX8_worst 60 = .ok (.goto 21, 3) := by decide +kernel
theorem dX8_worst_63 : decode cX8_worst 63 = .ok (.aload_n 0, 1) := by decide +kernel
theorem dX8_worst_64 : decode cX8_worst 64 = .ok (.getfield 54, 3) := by decide +kernel
theorem dX8_worst_67 : decode cX8_worst 67 = .ok (.iload_n 1, 1) := by decide +kernel
theorem dX8_worst_68 : decode cX8_worst 68 = .ok (.lload_n 2, 1) := by decide +kernel
theorem dX8_worst_69 : decode cX8_worst 69 = .ok (.lload 4, 2) := by decide +kernel
theorem dX8_worst_71 : decode cX8_worst 71 = .ok (.invokevirtual 264, 3) := by decide +kernel
theorem dX8_worst_74 : decode cX8_worst 74 = .ok (.ifCond .ne 7, 3) := by decide +kernel
theorem dX8_worst_77 : decode cX8_worst 77 = .ok (.bipush (-6), 2) := by decide +kernel
theorem dX8_worst_79 : decode cX8_worst 79 = .ok (.istore 6, 2) := by decide +kernel
theorem dX8_worst_81 : decode cX8_worst 81 = .ok (.aload_n 0, 1) := by decide +kernel
theorem dX8_worst_82 : decode cX8_worst 82 = .ok (.getfield 54, 3) := by decide +kernel
theorem dX8_worst_85 : decode cX8_worst 85 = .ok (.iload 6, 2) := by decide +kernel
theorem dX8_worst_87 : decode cX8_worst 87 = .ok (.putfield 268, 3) := by decide +kernel
theorem dX8_worst_90 : decode cX8_worst 90 = .ok (.iload 6, 2) := by decide +kernel
theorem dX8_worst_92 : decode cX8_worst 92 = .ok (.ifCond .ne 13, 3) := by decide +kernel
theorem dX8_worst_95 : decode cX8_worst 95 = .ok (.aload_n 0, 1) := by decide +kernel
theorem dX8_worst_96 : decode cX8_worst 96 = .ok (.getfield 54, 3) := by decide +kernel
theorem dX8_worst_99 : decode cX8_worst 99 = .ok (.getfield 271, 3) := by decide +kernel
theorem dX8_worst_102 : decode cX8_worst 102 = .ok (.goto 6, 3) := by decide +kernel
theorem dX8_worst_105 : decode cX8_worst 105 = .ok (.ldc2_w 199, 3) := by decide +kernel
theorem dX8_worst_108 : decode cX8_worst 108 = .ok (.lreturn, 1) := by decide +kernel
theorem dX8_worstAt_0 : decode cX8_worstAt 0 = .ok (.aload_n 0, 1) := by decide +kernel
theorem dX8_worstAt_1 : decode cX8_worstAt 1 = .ok (.getfield 54, 3) := by decide +kernel
theorem dX8_worstAt_4 : decode cX8_worstAt 4 = .ok (.iload_n 1, 1) := by decide +kernel
theorem dX8_worstAt_5 : decode cX8_worstAt 5 = .ok (.invokevirtual 273, 3) := by decide +kernel
theorem dX8_worstAt_8 : decode cX8_worstAt 8 = .ok (.lreturn, 1) := by decide +kernel
theorem dX8_count_0 : decode cX8_count 0 = .ok (.iload_n 1, 1) := by decide +kernel
theorem dX8_count_1 : decode cX8_count 1 = .ok (.tableswitch 84 0 5 #[39, 47, 55, 63, 71, 76], 39) := by decide +kernel
theorem dX8_count_40 : decode cX8_count 40 = .ok (.aload_n 0, 1) := by decide +kernel
theorem dX8_count_41 : decode cX8_count 41 = .ok (.getfield 19, 3) := by decide +kernel
theorem dX8_count_44 : decode cX8_count 44 = .ok (.getfield 141, 3) := by decide +kernel
theorem dX8_count_47 : decode cX8_count 47 = .ok (.ireturn, 1) := by decide +kernel
theorem dX8_count_48 : decode cX8_count 48 = .ok (.aload_n 0, 1) := by decide +kernel
theorem dX8_count_49 : decode cX8_count 49 = .ok (.getfield 19, 3) := by decide +kernel
theorem dX8_count_52 : decode cX8_count 52 = .ok (.getfield 275, 3) := by decide +kernel
theorem dX8_count_55 : decode cX8_count 55 = .ok (.ireturn, 1) := by decide +kernel
theorem dX8_count_56 : decode cX8_count 56 = .ok (.aload_n 0, 1) := by decide +kernel
theorem dX8_count_57 : decode cX8_count 57 = .ok (.getfield 26, 3) := by decide +kernel
theorem dX8_count_60 : decode cX8_count 60 = .ok (.getfield 138, 3) := by decide +kernel
theorem dX8_count_63 : decode cX8_count 63 = .ok (.ireturn, 1) := by decide +kernel
theorem dX8_count_64 : decode cX8_count 64 = .ok (.aload_n 0, 1) := by decide +kernel
theorem dX8_count_65 : decode cX8_count 65 = .ok (.getfield 65, 3) := by decide +kernel
theorem dX8_count_68 : decode cX8_count 68 = .ok (.getfield 227, 3) := by decide +kernel
theorem dX8_count_71 : decode cX8_count 71 = .ok (.ireturn, 1) := by decide +kernel
theorem dX8_count_72 : decode cX8_count 72 = .ok (.aload_n 0, 1) := by decide +kernel
theorem dX8_count_73 : decode cX8_count 73 = .ok (.getfield 72, 3) := by decide +kernel
theorem dX8_count_76 : decode cX8_count 76 = .ok (.ireturn, 1) := by decide +kernel
theorem dX8_count_77 : decode cX8_count 77 = .ok (.aload_n 0, 1) := by decide +kernel
theorem dX8_count_78 : decode cX8_count 78 = .ok (.getfield 54, 3) := by decide +kernel
theorem dX8_count_81 : decode cX8_count 81 = .ok (.getfield 268, 3) := by decide +kernel
theorem dX8_count_84 : decode cX8_count 84 = .ok (.ireturn, 1) := by decide +kernel
theorem dX8_count_85 : decode cX8_count 85 = .ok (.bipush (-2), 2) := by decide +kernel
theorem dX8_count_87 : decode cX8_count 87 = .ok (.ireturn, 1) := by decide +kernel
theorem dX8_digest_0 : decode cX8_digest 0 = .ok (.ldc2_w 278, 3) := by decide +kernel
theorem dX8_digest_3 : decode cX8_digest 3 = .ok (.lstore_n 1, 1) := by decide +kernel
theorem dX8_digest_4 : decode cX8_digest 4 = .ok (.iconst 0, 1) := by decide +kernel
theorem dX8_digest_5 : decode cX8_digest 5 = .ok (.istore_n 3, 1) := by decide +kernel
theorem dX8_digest_6 : decode cX8_digest 6 = .ok (.iload_n 3, 1) := by decide +kernel
theorem dX8_digest_7 : decode cX8_digest 7 = .ok (.aload_n 0, 1) := by decide +kernel
theorem dX8_digest_8 : decode cX8_digest 8 = .ok (.getfield 19, 3) := by decide +kernel
theorem dX8_digest_11 : decode cX8_digest 11 = .ok (.getfield 141, 3) := by decide +kernel
theorem dX8_digest_14 : decode cX8_digest 14 = .ok (.if_icmp .ge 64, 3) := by decide +kernel
theorem dX8_digest_17 : decode cX8_digest 17 = .ok (.iconst 0, 1) := by decide +kernel
theorem dX8_digest_18 : decode cX8_digest 18 = .ok (.istore 4, 2) := by decide +kernel
theorem dX8_digest_20 : decode cX8_digest 20 = .ok (.iload 4, 2) := by decide +kernel
theorem dX8_digest_22 : decode cX8_digest 22 = .ok (.bipush 6, 2) := by decide +kernel
theorem dX8_digest_24 : decode cX8_digest 24 = .ok (.if_icmp .ge 31, 3) := by decide +kernel
theorem dX8_digest_27 : decode cX8_digest 27 = .ok (.ldc2_w 280, 3) := by decide +kernel
theorem dX8_digest_30 : decode cX8_digest 30 = .ok (.lload_n 1, 1) := by decide +kernel
theorem dX8_digest_31 : decode cX8_digest 31 = .ok (.lmul, 1) := by decide +kernel
theorem dX8_digest_32 : decode cX8_digest 32 = .ok (.aload_n 0, 1) := by decide +kernel
theorem dX8_digest_33 : decode cX8_digest 33 = .ok (.getfield 65, 3) := by decide +kernel
theorem dX8_digest_36 : decode cX8_digest 36 = .ok (.getfield 204, 3) := by decide +kernel
theorem dX8_digest_39 : decode cX8_digest 39 = .ok (.iload_n 3, 1) := by decide +kernel
theorem dX8_digest_40 : decode cX8_digest 40 = .ok (.bipush 6, 2) := by decide +kernel
theorem dX8_digest_42 : decode cX8_digest 42 = .ok (.imul, 1) := by decide +kernel
theorem dX8_digest_43 : decode cX8_digest 43 = .ok (.iload 4, 2) := by decide +kernel
theorem dX8_digest_45 : decode cX8_digest 45 = .ok (.iadd, 1) := by decide +kernel
theorem dX8_digest_46 : decode cX8_digest 46 = .ok (.laload, 1) := by decide +kernel
theorem dX8_digest_47 : decode cX8_digest 47 = .ok (.ladd, 1) := by decide +kernel
theorem dX8_digest_48 : decode cX8_digest 48 = .ok (.lstore_n 1, 1) := by decide +kernel
theorem dX8_digest_49 : decode cX8_digest 49 = .ok (.iinc 4 1, 3) := by decide +kernel
theorem dX8_digest_52 : decode cX8_digest 52 = .ok (.goto (-32), 3) := by decide +kernel
theorem dX8_digest_55 : decode cX8_digest 55 = .ok (.ldc2_w 280, 3) := by decide +kernel
theorem dX8_digest_58 : decode cX8_digest 58 = .ok (.lload_n 1, 1) := by decide +kernel
theorem dX8_digest_59 : decode cX8_digest 59 = .ok (.lmul, 1) := by decide +kernel
theorem dX8_digest_60 : decode cX8_digest 60 = .ok (.aload_n 0, 1) := by decide +kernel
theorem dX8_digest_61 : decode cX8_digest 61 = .ok (.getfield 19, 3) := by decide +kernel
theorem dX8_digest_64 : decode cX8_digest 64 = .ok (.getfield 201, 3) := by decide +kernel
theorem dX8_digest_67 : decode cX8_digest 67 = .ok (.iload_n 3, 1) := by decide +kernel
theorem dX8_digest_68 : decode cX8_digest 68 = .ok (.iaload, 1) := by decide +kernel
theorem dX8_digest_69 : decode cX8_digest 69 = .ok (.i2l, 1) := by decide +kernel
theorem dX8_digest_70 : decode cX8_digest 70 = .ok (.ladd, 1) := by decide +kernel
theorem dX8_digest_71 : decode cX8_digest 71 = .ok (.lstore_n 1, 1) := by decide +kernel
theorem dX8_digest_72 : decode cX8_digest 72 = .ok (.iinc 3 1, 3) := by decide +kernel
theorem dX8_digest_75 : decode cX8_digest 75 = .ok (.goto (-69), 3) := by decide +kernel
theorem dX8_digest_78 : decode cX8_digest 78 = .ok (.iconst 0, 1) := by decide +kernel
theorem dX8_digest_79 : decode cX8_digest 79 = .ok (.istore_n 3, 1) := by decide +kernel
theorem dX8_digest_80 : decode cX8_digest 80 = .ok (.iload_n 3, 1) := by decide +kernel
theorem dX8_digest_81 : decode cX8_digest 81 = .ok (.aload_n 0, 1) := by decide +kernel
theorem dX8_digest_82 : decode cX8_digest 82 = .ok (.getfield 19, 3) := by decide +kernel
theorem dX8_digest_85 : decode cX8_digest 85 = .ok (.getfield 275, 3) := by decide +kernel
theorem dX8_digest_88 : decode cX8_digest 88 = .ok (.if_icmp .ge 25, 3) := by decide +kernel
theorem dX8_digest_91 : decode cX8_digest 91 = .ok (.ldc2_w 280, 3) := by decide +kernel
theorem dX8_digest_94 : decode cX8_digest 94 = .ok (.lload_n 1, 1) := by decide +kernel
theorem dX8_digest_95 : decode cX8_digest 95 = .ok (.lmul, 1) := by decide +kernel
theorem dX8_digest_96 : decode cX8_digest 96 = .ok (.aload_n 0, 1) := by decide +kernel
theorem dX8_digest_97 : decode cX8_digest 97 = .ok (.getfield 19, 3) := by decide +kernel
theorem dX8_digest_100 : decode cX8_digest 100 = .ok (.getfield 165, 3) := by decide +kernel
theorem dX8_digest_103 : decode cX8_digest 103 = .ok (.iload_n 3, 1) := by decide +kernel
theorem dX8_digest_104 : decode cX8_digest 104 = .ok (.laload, 1) := by decide +kernel
theorem dX8_digest_105 : decode cX8_digest 105 = .ok (.ladd, 1) := by decide +kernel
theorem dX8_digest_106 : decode cX8_digest 106 = .ok (.lstore_n 1, 1) := by decide +kernel
theorem dX8_digest_107 : decode cX8_digest 107 = .ok (.iinc 3 1, 3) := by decide +kernel
theorem dX8_digest_110 : decode cX8_digest 110 = .ok (.goto (-30), 3) := by decide +kernel
theorem dX8_digest_113 : decode cX8_digest 113 = .ok (.ldc2_w 280, 3) := by decide +kernel
theorem dX8_digest_116 : decode cX8_digest 116 = .ok (.lload_n 1, 1) := by decide +kernel
theorem dX8_digest_117 : decode cX8_digest 117 = .ok (.lmul, 1) := by decide +kernel
theorem dX8_digest_118 : decode cX8_digest 118 = .ok (.aload_n 0, 1) := by decide +kernel
theorem dX8_digest_119 : decode cX8_digest 119 = .ok (.getfield 65, 3) := by decide +kernel
theorem dX8_digest_122 : decode cX8_digest 122 = .ok (.getfield 176, 3) := by decide +kernel
theorem dX8_digest_125 : decode cX8_digest 125 = .ok (.ladd, 1) := by decide +kernel
theorem dX8_digest_126 : decode cX8_digest 126 = .ok (.lstore_n 1, 1) := by decide +kernel
theorem dX8_digest_127 : decode cX8_digest 127 = .ok (.iconst 0, 1) := by decide +kernel
theorem dX8_digest_128 : decode cX8_digest 128 = .ok (.istore_n 3, 1) := by decide +kernel
theorem dX8_digest_129 : decode cX8_digest 129 = .ok (.iload_n 3, 1) := by decide +kernel
theorem dX8_digest_130 : decode cX8_digest 130 = .ok (.aload_n 0, 1) := by decide +kernel
theorem dX8_digest_131 : decode cX8_digest 131 = .ok (.getfield 26, 3) := by decide +kernel
theorem dX8_digest_134 : decode cX8_digest 134 = .ok (.getfield 138, 3) := by decide +kernel
theorem dX8_digest_137 : decode cX8_digest 137 = .ok (.if_icmp .ge 45, 3) := by decide +kernel
theorem dX8_digest_140 : decode cX8_digest 140 = .ok (.ldc2_w 280, 3) := by decide +kernel
theorem dX8_digest_143 : decode cX8_digest 143 = .ok (.lload_n 1, 1) := by decide +kernel
theorem dX8_digest_144 : decode cX8_digest 144 = .ok (.lmul, 1) := by decide +kernel
theorem dX8_digest_145 : decode cX8_digest 145 = .ok (.aload_n 0, 1) := by decide +kernel
theorem dX8_digest_146 : decode cX8_digest 146 = .ok (.getfield 26, 3) := by decide +kernel
theorem dX8_digest_149 : decode cX8_digest 149 = .ok (.getfield 210, 3) := by decide +kernel
theorem dX8_digest_152 : decode cX8_digest 152 = .ok (.iload_n 3, 1) := by decide +kernel
theorem dX8_digest_153 : decode cX8_digest 153 = .ok (.bipush 7, 2) := by decide +kernel
theorem dX8_digest_155 : decode cX8_digest 155 = .ok (.imul, 1) := by decide +kernel
theorem dX8_digest_156 : decode cX8_digest 156 = .ok (.iconst 0, 1) := by decide +kernel
theorem dX8_digest_157 : decode cX8_digest 157 = .ok (.iadd, 1) := by decide +kernel
theorem dX8_digest_158 : decode cX8_digest 158 = .ok (.laload, 1) := by decide +kernel
theorem dX8_digest_159 : decode cX8_digest 159 = .ok (.ladd, 1) := by decide +kernel
theorem dX8_digest_160 : decode cX8_digest 160 = .ok (.lstore_n 1, 1) := by decide +kernel
theorem dX8_digest_161 : decode cX8_digest 161 = .ok (.ldc2_w 280, 3) := by decide +kernel
theorem dX8_digest_164 : decode cX8_digest 164 = .ok (.lload_n 1, 1) := by decide +kernel
theorem dX8_digest_165 : decode cX8_digest 165 = .ok (.lmul, 1) := by decide +kernel
theorem dX8_digest_166 : decode cX8_digest 166 = .ok (.aload_n 0, 1) := by decide +kernel
theorem dX8_digest_167 : decode cX8_digest 167 = .ok (.getfield 26, 3) := by decide +kernel
theorem dX8_digest_170 : decode cX8_digest 170 = .ok (.iload_n 3, 1) := by decide +kernel
theorem dX8_digest_171 : decode cX8_digest 171 = .ok (.invokevirtual 218, 3) := by decide +kernel
theorem dX8_digest_174 : decode cX8_digest 174 = .ok (.ladd, 1) := by decide +kernel
theorem dX8_digest_175 : decode cX8_digest 175 = .ok (.lstore_n 1, 1) := by decide +kernel
theorem dX8_digest_176 : decode cX8_digest 176 = .ok (.iinc 3 1, 3) := by decide +kernel
theorem dX8_digest_179 : decode cX8_digest 179 = .ok (.goto (-50), 3) := by decide +kernel
theorem dX8_digest_182 : decode cX8_digest 182 = .ok (.lload_n 1, 1) := by decide +kernel
theorem dX8_digest_183 : decode cX8_digest 183 = .ok (.lreturn, 1) := by decide +kernel
theorem dX8_found_0 : decode cX8_found 0 = .ok (.aload_n 0, 1) := by decide +kernel
theorem dX8_found_1 : decode cX8_found 1 = .ok (.iload_n 1, 1) := by decide +kernel
theorem dX8_found_2 : decode cX8_found 2 = .ok (.putfield 72, 3) := by decide +kernel
theorem dX8_found_5 : decode cX8_found 5 = .ok (.bipush (-10), 2) := by decide +kernel
theorem dX8_found_7 : decode cX8_found 7 = .ok (.iload_n 1, 1) := by decide +kernel
theorem dX8_found_8 : decode cX8_found 8 = .ok (.isub, 1) := by decide +kernel
theorem dX8_found_9 : decode cX8_found 9 = .ok (.ireturn, 1) := by decide +kernel
theorem dX8_refuseItem_0 : decode cX8_refuseItem 0 = .ok (.iload_n 1, 1) := by decide +kernel
theorem dX8_refuseItem_1 : decode cX8_refuseItem 1 = .ok (.invokestatic 76, 3) := by decide +kernel
theorem dX8_refuseItem_4 : decode cX8_refuseItem 4 = .ok (.ifCond .eq 10, 3) := by decide +kernel
theorem dX8_refuseItem_7 : decode cX8_refuseItem 7 = .ok (.iload_n 2, 1) := by decide +kernel
theorem dX8_refuseItem_8 : decode cX8_refuseItem 8 = .ok (.invokestatic 80, 3) := by decide +kernel
theorem dX8_refuseItem_11 : decode cX8_refuseItem 11 = .ok (.ifCond .ne 6, 3) := by decide +kernel
theorem dX8_refuseItem_14 : decode cX8_refuseItem 14 = .ok (.bipush (-2), 2) := by decide +kernel
theorem dX8_refuseItem_16 : decode cX8_refuseItem 16 = .ok (.ireturn, 1) := by decide +kernel
theorem dX8_refuseItem_17 : decode cX8_refuseItem 17 = .ok (.aload_n 0, 1) := by decide +kernel
theorem dX8_refuseItem_18 : decode cX8_refuseItem 18 = .ok (.getfield 11, 3) := by decide +kernel
theorem dX8_refuseItem_21 : decode cX8_refuseItem 21 = .ok (.iload_n 1, 1) := by decide +kernel
theorem dX8_refuseItem_22 : decode cX8_refuseItem 22 = .ok (.aaload, 1) := by decide +kernel
theorem dX8_refuseItem_23 : decode cX8_refuseItem 23 = .ok (.getfield 91, 3) := by decide +kernel
theorem dX8_refuseItem_26 : decode cX8_refuseItem 26 = .ok (.ifCond .eq 9, 3) := by decide +kernel
theorem dX8_refuseItem_29 : decode cX8_refuseItem 29 = .ok (.aload_n 0, 1) := by decide +kernel
theorem dX8_refuseItem_30 : decode cX8_refuseItem 30 = .ok (.iconst 1, 1) := by decide +kernel
theorem dX8_refuseItem_31 : decode cX8_refuseItem 31 = .ok (.invokevirtual 83, 3) := by decide +kernel
theorem dX8_refuseItem_34 : decode cX8_refuseItem 34 = .ok (.ireturn, 1) := by decide +kernel
theorem dX8_refuseItem_35 : decode cX8_refuseItem 35 = .ok (.aload_n 0, 1) := by decide +kernel
theorem dX8_refuseItem_36 : decode cX8_refuseItem 36 = .ok (.getfield 11, 3) := by decide +kernel
theorem dX8_refuseItem_39 : decode cX8_refuseItem 39 = .ok (.iload_n 1, 1) := by decide +kernel
theorem dX8_refuseItem_40 : decode cX8_refuseItem 40 = .ok (.aaload, 1) := by decide +kernel
theorem dX8_refuseItem_41 : decode cX8_refuseItem 41 = .ok (.getfield 110, 3) := by decide +kernel
theorem dX8_refuseItem_44 : decode cX8_refuseItem 44 = .ok (.iload_n 2, 1) := by decide +kernel
theorem dX8_refuseItem_45 : decode cX8_refuseItem 45 = .ok (.if_icmp .eq 9, 3) := by decide +kernel
theorem dX8_refuseItem_48 : decode cX8_refuseItem 48 = .ok (.aload_n 0, 1) := by decide +kernel
theorem dX8_refuseItem_49 : decode cX8_refuseItem 49 = .ok (.iconst 3, 1) := by decide +kernel
theorem dX8_refuseItem_50 : decode cX8_refuseItem 50 = .ok (.invokevirtual 83, 3) := by decide +kernel
theorem dX8_refuseItem_53 : decode cX8_refuseItem 53 = .ok (.ireturn, 1) := by decide +kernel
theorem dX8_refuseItem_54 : decode cX8_refuseItem 54 = .ok (.aload_n 0, 1) := by decide +kernel
theorem dX8_refuseItem_55 : decode cX8_refuseItem 55 = .ok (.getfield 11, 3) := by decide +kernel
theorem dX8_refuseItem_58 : decode cX8_refuseItem 58 = .ok (.iload_n 1, 1) := by decide +kernel
theorem dX8_refuseItem_59 : decode cX8_refuseItem 59 = .ok (.aaload, 1) := by decide +kernel
theorem dX8_refuseItem_60 : decode cX8_refuseItem 60 = .ok (.iload_n 3, 1) := by decide +kernel
theorem dX8_refuseItem_61 : decode cX8_refuseItem 61 = .ok (.i2l, 1) := by decide +kernel
theorem dX8_refuseItem_62 : decode cX8_refuseItem 62 = .ok (.invokevirtual 282, 3) := by decide +kernel
theorem dX8_refuseItem_65 : decode cX8_refuseItem 65 = .ok (.ifCond .eq 7, 3) := by decide +kernel
theorem dX8_refuseItem_68 : decode cX8_refuseItem 68 = .ok (.iconst 0, 1) := by decide +kernel
theorem dX8_refuseItem_69 : decode cX8_refuseItem 69 = .ok (.goto 8, 3) := by decide +kernel
theorem dX8_refuseItem_72 : decode cX8_refuseItem 72 = .ok (.aload_n 0, 1) := by decide +kernel
theorem dX8_refuseItem_73 : decode cX8_refuseItem 73 = .ok (.iconst 2, 1) := by decide +kernel
theorem dX8_refuseItem_74 : decode cX8_refuseItem 74 = .ok (.invokevirtual 83, 3) := by decide +kernel
theorem dX8_refuseItem_77 : decode cX8_refuseItem 77 = .ok (.ireturn, 1) := by decide +kernel
theorem dX8_refuseSample_0 : decode cX8_refuseSample 0 = .ok (.aload_n 0, 1) := by decide +kernel
theorem dX8_refuseSample_1 : decode cX8_refuseSample 1 = .ok (.getfield 11, 3) := by decide +kernel
theorem dX8_refuseSample_4 : decode cX8_refuseSample 4 = .ok (.iload_n 1, 1) := by decide +kernel
theorem dX8_refuseSample_5 : decode cX8_refuseSample 5 = .ok (.aaload, 1) := by decide +kernel
theorem dX8_refuseSample_6 : decode cX8_refuseSample 6 = .ok (.getfield 91, 3) := by decide +kernel
theorem dX8_refuseSample_9 : decode cX8_refuseSample 9 = .ok (.ifCond .eq 9, 3) := by decide +kernel
theorem dX8_refuseSample_12 : decode cX8_refuseSample 12 = .ok (.aload_n 0, 1) := by decide +kernel
theorem dX8_refuseSample_13 : decode cX8_refuseSample 13 = .ok (.iconst 1, 1) := by decide +kernel
theorem dX8_refuseSample_14 : decode cX8_refuseSample 14 = .ok (.invokevirtual 83, 3) := by decide +kernel
theorem dX8_refuseSample_17 : decode cX8_refuseSample 17 = .ok (.ireturn, 1) := by decide +kernel
theorem dX8_refuseSample_18 : decode cX8_refuseSample 18 = .ok (.aload_n 0, 1) := by decide +kernel
theorem dX8_refuseSample_19 : decode cX8_refuseSample 19 = .ok (.getfield 11, 3) := by decide +kernel
theorem dX8_refuseSample_22 : decode cX8_refuseSample 22 = .ok (.iload_n 1, 1) := by decide +kernel
theorem dX8_refuseSample_23 : decode cX8_refuseSample 23 = .ok (.aaload, 1) := by decide +kernel
theorem dX8_refuseSample_24 : decode cX8_refuseSample 24 = .ok (.lload_n 2, 1) := by decide +kernel
theorem dX8_refuseSample_25 : decode cX8_refuseSample 25 = .ok (.invokevirtual 282, 3) := by decide +kernel
theorem dX8_refuseSample_28 : decode cX8_refuseSample 28 = .ok (.ifCond .eq 7, 3) := by decide +kernel
theorem dX8_refuseSample_31 : decode cX8_refuseSample 31 = .ok (.iconst 0, 1) := by decide +kernel
theorem dX8_refuseSample_32 : decode cX8_refuseSample 32 = .ok (.goto 8, 3) := by decide +kernel
theorem dX8_refuseSample_35 : decode cX8_refuseSample 35 = .ok (.aload_n 0, 1) := by decide +kernel
theorem dX8_refuseSample_36 : decode cX8_refuseSample 36 = .ok (.iconst 2, 1) := by decide +kernel
theorem dX8_refuseSample_37 : decode cX8_refuseSample 37 = .ok (.invokevirtual 83, 3) := by decide +kernel
theorem dX8_refuseSample_40 : decode cX8_refuseSample 40 = .ok (.ireturn, 1) := by decide +kernel
theorem dX8_makeOne_0 : decode cX8_makeOne 0 = .ok (.aload_n 0, 1) := by decide +kernel
theorem dX8_makeOne_1 : decode cX8_makeOne 1 = .ok (.getfield 26, 3) := by decide +kernel
theorem dX8_makeOne_4 : decode cX8_makeOne 4 = .ok (.getfield 138, 3) := by decide +kernel
theorem dX8_makeOne_7 : decode cX8_makeOne 7 = .ok (.sipush 300, 3) := by decide +kernel
theorem dX8_makeOne_10 : decode cX8_makeOne 10 = .ok (.if_icmp .lt 6, 3) := by decide +kernel
theorem dX8_makeOne_13 : decode cX8_makeOne 13 = .ok (.bipush (-4), 2) := by decide +kernel
theorem dX8_makeOne_15 : decode cX8_makeOne 15 = .ok (.ireturn, 1) := by decide +kernel
theorem dX8_makeOne_16 : decode cX8_makeOne 16 = .ok (.aload_n 0, 1) := by decide +kernel
theorem dX8_makeOne_17 : decode cX8_makeOne 17 = .ok (.getfield 69, 3) := by decide +kernel
theorem dX8_makeOne_20 : decode cX8_makeOne 20 = .ok (.aload_n 0, 1) := by decide +kernel
theorem dX8_makeOne_21 : decode cX8_makeOne 21 = .ok (.getfield 65, 3) := by decide +kernel
theorem dX8_makeOne_24 : decode cX8_makeOne 24 = .ok (.invokevirtual 192, 3) := by decide +kernel
theorem dX8_makeOne_27 : decode cX8_makeOne 27 = .ok (.aload_n 0, 1) := by decide +kernel
theorem dX8_makeOne_28 : decode cX8_makeOne 28 = .ok (.getfield 69, 3) := by decide +kernel
theorem dX8_makeOne_31 : decode cX8_makeOne 31 = .ok (.lload_n 1, 1) := by decide +kernel
theorem dX8_makeOne_32 : decode cX8_makeOne 32 = .ok (.invokevirtual 189, 3) := by decide +kernel
theorem dX8_makeOne_35 : decode cX8_makeOne 35 = .ok (.ifCond .ne 6, 3) := by decide +kernel
theorem dX8_makeOne_38 : decode cX8_makeOne 38 = .ok (.bipush (-6), 2) := by decide +kernel
theorem dX8_makeOne_40 : decode cX8_makeOne 40 = .ok (.ireturn, 1) := by decide +kernel
theorem dX8_makeOne_41 : decode cX8_makeOne 41 = .ok (.aload_n 0, 1) := by decide +kernel
theorem dX8_makeOne_42 : decode cX8_makeOne 42 = .ok (.getfield 65, 3) := by decide +kernel
theorem dX8_makeOne_45 : decode cX8_makeOne 45 = .ok (.astore_n 3, 1) := by decide +kernel
theorem dX8_makeOne_46 : decode cX8_makeOne 46 = .ok (.aload_n 0, 1) := by decide +kernel
theorem dX8_makeOne_47 : decode cX8_makeOne 47 = .ok (.aload_n 0, 1) := by decide +kernel
theorem dX8_makeOne_48 : decode cX8_makeOne 48 = .ok (.getfield 69, 3) := by decide +kernel
theorem dX8_makeOne_51 : decode cX8_makeOne 51 = .ok (.putfield 65, 3) := by decide +kernel
theorem dX8_makeOne_54 : decode cX8_makeOne 54 = .ok (.aload_n 0, 1) := by decide +kernel
theorem dX8_makeOne_55 : decode cX8_makeOne 55 = .ok (.aload_n 3, 1) := by decide +kernel
theorem dX8_makeOne_56 : decode cX8_makeOne 56 = .ok (.putfield 69, 3) := by decide +kernel
theorem dX8_makeOne_59 : decode cX8_makeOne 59 = .ok (.aload_n 0, 1) := by decide +kernel
theorem dX8_makeOne_60 : decode cX8_makeOne 60 = .ok (.getfield 26, 3) := by decide +kernel
theorem dX8_makeOne_63 : decode cX8_makeOne 63 = .ok (.lload_n 1, 1) := by decide +kernel
theorem dX8_makeOne_64 : decode cX8_makeOne 64 = .ok (.aload_n 0, 1) := by decide +kernel
theorem dX8_makeOne_65 : decode cX8_makeOne 65 = .ok (.getfield 65, 3) := by decide +kernel
theorem dX8_makeOne_68 : decode cX8_makeOne 68 = .ok (.invokevirtual 285, 3) := by decide +kernel
theorem dX8_makeOne_71 : decode cX8_makeOne 71 = .ok (.aload_n 0, 1) := by decide +kernel
theorem dX8_makeOne_72 : decode cX8_makeOne 72 = .ok (.getfield 65, 3) := by decide +kernel
theorem dX8_makeOne_75 : decode cX8_makeOne 75 = .ok (.getfield 289, 3) := by decide +kernel
theorem dX8_makeOne_78 : decode cX8_makeOne 78 = .ok (.ireturn, 1) := by decide +kernel
theorem dX8_isRecorded_0 : decode cX8_isRecorded 0 = .ok (.aload_n 0, 1) := by decide +kernel
theorem dX8_isRecorded_1 : decode cX8_isRecorded 1 = .ok (.getfield 26, 3) := by decide +kernel
theorem dX8_isRecorded_4 : decode cX8_isRecorded 4 = .ok (.iload_n 1, 1) := by decide +kernel
theorem dX8_isRecorded_5 : decode cX8_isRecorded 5 = .ok (.invokevirtual 215, 3) := by decide +kernel
theorem dX8_isRecorded_8 : decode cX8_isRecorded 8 = .ok (.ifCond .eq 24, 3) := by decide +kernel
theorem dX8_isRecorded_11 : decode cX8_isRecorded 11 = .ok (.iload_n 2, 1) := by decide +kernel
theorem dX8_isRecorded_12 : decode cX8_isRecorded 12 = .ok (.ifCond .lt 20, 3) := by decide +kernel
theorem dX8_isRecorded_15 : decode cX8_isRecorded 15 = .ok (.iload_n 2, 1) := by decide +kernel
theorem dX8_isRecorded_16 : decode cX8_isRecorded 16 = .ok (.iconst 2, 1) := by decide +kernel
theorem dX8_isRecorded_17 : decode cX8_isRecorded 17 = .ok (.aload_n 0, 1) := by decide +kernel
theorem dX8_isRecorded_18 : decode cX8_isRecorded 18 = .ok (.getfield 19, 3) := by decide +kernel
theorem dX8_isRecorded_21 : decode cX8_isRecorded 21 = .ok (.getfield 141, 3) := by decide +kernel
theorem dX8_isRecorded_24 : decode cX8_isRecorded 24 = .ok (.iadd, 1) := by decide +kernel
theorem dX8_isRecorded_25 : decode cX8_isRecorded 25 = .ok (.if_icmp .ge 7, 3) := by decide +kernel
theorem dX8_isRecorded_28 : decode cX8_isRecorded 28 = .ok (.iconst 1, 1) := by decide +kernel
theorem dX8_isRecorded_29 : decode cX8_isRecorded 29 = .ok (.goto 4, 3) := by decide +kernel
theorem dX8_isRecorded_32 : decode cX8_isRecorded 32 = .ok (.iconst 0, 1) := by decide +kernel
theorem dX8_isRecorded_33 : decode cX8_isRecorded 33 = .ok (.ireturn, 1) := by decide +kernel
theorem dX8_isReachable_0 : decode cX8_isReachable 0 = .ok (.aload_n 0, 1) := by decide +kernel
theorem dX8_isReachable_1 : decode cX8_isReachable 1 = .ok (.getfield 19, 3) := by decide +kernel
theorem dX8_isReachable_4 : decode cX8_isReachable 4 = .ok (.getfield 141, 3) := by decide +kernel
theorem dX8_isReachable_7 : decode cX8_isReachable 7 = .ok (.iconst 1, 1) := by decide +kernel
theorem dX8_isReachable_8 : decode cX8_isReachable 8 = .ok (.if_icmp .lt 24, 3) := by decide +kernel
theorem dX8_isReachable_11 : decode cX8_isReachable 11 = .ok (.aload_n 0, 1) := by decide +kernel
theorem dX8_isReachable_12 : decode cX8_isReachable 12 = .ok (.getfield 19, 3) := by decide +kernel
theorem dX8_isReachable_15 : decode cX8_isReachable 15 = .ok (.getfield 141, 3) := by decide +kernel
theorem dX8_isReachable_18 : decode cX8_isReachable 18 = .ok (.iconst 2, 1) := by decide +kernel
theorem dX8_isReachable_19 : decode cX8_isReachable 19 = .ok (.if_icmp .gt 13, 3) := by decide +kernel
theorem dX8_isReachable_22 : decode cX8_isReachable 22 = .ok (.aload_n 0, 1) := by decide +kernel
theorem dX8_isReachable_23 : decode cX8_isReachable 23 = .ok (.getfield 19, 3) := by decide +kernel
theorem dX8_isReachable_26 : decode cX8_isReachable 26 = .ok (.getfield 169, 3) := by decide +kernel
theorem dX8_isReachable_29 : decode cX8_isReachable 29 = .ok (.ifCond .eq 5, 3) := by decide +kernel
theorem dX8_isReachable_32 : decode cX8_isReachable 32 = .ok (.iconst 0, 1) := by decide +kernel
theorem dX8_isReachable_33 : decode cX8_isReachable 33 = .ok (.ireturn, 1) := by decide +kernel
theorem dX8_isReachable_34 : decode cX8_isReachable 34 = .ok (.iconst 0, 1) := by decide +kernel
theorem dX8_isReachable_35 : decode cX8_isReachable 35 = .ok (.istore_n 1, 1) := by decide +kernel
theorem dX8_isReachable_36 : decode cX8_isReachable 36 = .ok (.iload_n 1, 1) := by decide +kernel
theorem dX8_isReachable_37 : decode cX8_isReachable 37 = .ok (.aload_n 0, 1) := by decide +kernel
theorem dX8_isReachable_38 : decode cX8_isReachable 38 = .ok (.getfield 19, 3) := by decide +kernel
theorem dX8_isReachable_41 : decode cX8_isReachable 41 = .ok (.getfield 141, 3) := by decide +kernel
theorem dX8_isReachable_44 : decode cX8_isReachable 44 = .ok (.if_icmp .ge 24, 3) := by decide +kernel
theorem dX8_isReachable_47 : decode cX8_isReachable 47 = .ok (.aload_n 0, 1) := by decide +kernel
theorem dX8_isReachable_48 : decode cX8_isReachable 48 = .ok (.getfield 19, 3) := by decide +kernel
theorem dX8_isReachable_51 : decode cX8_isReachable 51 = .ok (.getfield 201, 3) := by decide +kernel
theorem dX8_isReachable_54 : decode cX8_isReachable 54 = .ok (.iload_n 1, 1) := by decide +kernel
theorem dX8_isReachable_55 : decode cX8_isReachable 55 = .ok (.iaload, 1) := by decide +kernel
theorem dX8_isReachable_56 : decode cX8_isReachable 56 = .ok (.iconst 3, 1) := by decide +kernel
theorem dX8_isReachable_57 : decode cX8_isReachable 57 = .ok (.if_icmp .ne 5, 3) := by decide +kernel
theorem dX8_isReachable_60 : decode cX8_isReachable 60 = .ok (.iconst 0, 1) := by decide +kernel
theorem dX8_isReachable_61 : decode cX8_isReachable 61 = .ok (.ireturn, 1) := by decide +kernel
theorem dX8_isReachable_62 : decode cX8_isReachable 62 = .ok (.iinc 1 1, 3) := by decide +kernel
theorem dX8_isReachable_65 : decode cX8_isReachable 65 = .ok (.goto (-29), 3) := by decide +kernel
theorem dX8_isReachable_68 : decode cX8_isReachable 68 = .ok (.iconst 1, 1) := by decide +kernel
theorem dX8_isReachable_69 : decode cX8_isReachable 69 = .ok (.ireturn, 1) := by decide +kernel
theorem dX8_isReel_0 : decode cX8_isReel 0 = .ok (.iload_n 0, 1) := by decide +kernel
theorem dX8_isReel_1 : decode cX8_isReel 1 = .ok (.ifCond .lt 13, 3) := by decide +kernel
theorem dX8_isReel_4 : decode cX8_isReel 4 = .ok (.iload_n 0, 1) := by decide +kernel
theorem dX8_isReel_5 : decode cX8_isReel 5 = .ok (.bipush 6, 2) := by decide +kernel
theorem dX8_isReel_7 : decode cX8_isReel 7 = .ok (.if_icmp .ge 7, 3) := by decide +kernel
theorem dX8_isReel_10 : decode cX8_isReel 10 = .ok (.iconst 1, 1) := by decide +kernel
theorem dX8_isReel_11 : decode cX8_isReel 11 = .ok (.goto 4, 3) := by decide +kernel
theorem dX8_isReel_14 : decode cX8_isReel 14 = .ok (.iconst 0, 1) := by decide +kernel
theorem dX8_isReel_15 : decode cX8_isReel 15 = .ok (.ireturn, 1) := by decide +kernel
theorem dX8_isForm_0 : decode cX8_isForm 0 = .ok (.iload_n 0, 1) := by decide +kernel
theorem dX8_isForm_1 : decode cX8_isForm 1 = .ok (.ifCond .lt 13, 3) := by decide +kernel
theorem dX8_isForm_4 : decode cX8_isForm 4 = .ok (.iload_n 0, 1) := by decide +kernel
theorem dX8_isForm_5 : decode cX8_isForm 5 = .ok (.bipush 6, 2) := by decide +kernel
theorem dX8_isForm_7 : decode cX8_isForm 7 = .ok (.if_icmp .ge 7, 3) := by decide +kernel
theorem dX8_isForm_10 : decode cX8_isForm 10 = .ok (.iconst 1, 1) := by decide +kernel
theorem dX8_isForm_11 : decode cX8_isForm 11 = .ok (.goto 4, 3) := by decide +kernel
theorem dX8_isForm_14 : decode cX8_isForm 14 = .ok (.iconst 0, 1) := by decide +kernel
theorem dX8_isForm_15 : decode cX8_isForm 15 = .ok (.ireturn, 1) := by decide +kernel
theorem dX8_isSample_0 : decode cX8_isSample 0 = .ok (.lload_n 0, 1) := by decide +kernel
theorem dX8_isSample_1 : decode cX8_isSample 1 = .ok (.ldc2_w 292, 3) := by decide +kernel
theorem dX8_isSample_4 : decode cX8_isSample 4 = .ok (.lcmp, 1) := by decide +kernel
theorem dX8_isSample_5 : decode cX8_isSample 5 = .ok (.ifCond .lt 15, 3) := by decide +kernel
theorem dX8_isSample_8 : decode cX8_isSample 8 = .ok (.lload_n 0, 1) := by decide +kernel
theorem dX8_isSample_9 : decode cX8_isSample 9 = .ok (.ldc2_w 294, 3) := by decide +kernel
theorem dX8_isSample_12 : decode cX8_isSample 12 = .ok (.lcmp, 1) := by decide +kernel
theorem dX8_isSample_13 : decode cX8_isSample 13 = .ok (.ifCond .gt 7, 3) := by decide +kernel
theorem dX8_isSample_16 : decode cX8_isSample 16 = .ok (.iconst 1, 1) := by decide +kernel
theorem dX8_isSample_17 : decode cX8_isSample 17 = .ok (.goto 4, 3) := by decide +kernel
theorem dX8_isSample_20 : decode cX8_isSample 20 = .ok (.iconst 0, 1) := by decide +kernel
theorem dX8_isSample_21 : decode cX8_isSample 21 = .ok (.ireturn, 1) := by decide +kernel
theorem dX8_isStageAsTold_0 : decode cX8_isStageAsTold 0 = .ok (.lload_n 1, 1) := by decide +kernel
theorem dX8_isStageAsTold_1 : decode cX8_isStageAsTold 1 = .ok (.lconst 0, 1) := by decide +kernel
theorem dX8_isStageAsTold_2 : decode cX8_isStageAsTold 2 = .ok (.lcmp, 1) := by decide +kernel
theorem dX8_isStageAsTold_3 : decode cX8_isStageAsTold 3 = .ok (.ifCond .lt 15, 3) := by decide +kernel
theorem dX8_isStageAsTold_6 : decode cX8_isStageAsTold 6 = .ok (.lload_n 1, 1) := by decide +kernel
theorem dX8_isStageAsTold_7 : decode cX8_isStageAsTold 7 = .ok (.ldc2_w 296, 3) := by decide +kernel
theorem dX8_isStageAsTold_10 : decode cX8_isStageAsTold 10 = .ok (.lcmp, 1) := by decide +kernel
theorem dX8_isStageAsTold_11 : decode cX8_isStageAsTold 11 = .ok (.ifCond .gt 7, 3) := by decide +kernel
theorem dX8_isStageAsTold_14 : decode cX8_isStageAsTold 14 = .ok (.iconst 1, 1) := by decide +kernel
theorem dX8_isStageAsTold_15 : decode cX8_isStageAsTold 15 = .ok (.goto 4, 3) := by decide +kernel
theorem dX8_isStageAsTold_18 : decode cX8_isStageAsTold 18 = .ok (.iconst 0, 1) := by decide +kernel
theorem dX8_isStageAsTold_19 : decode cX8_isStageAsTold 19 = .ok (.istore 4, 2) := by decide +kernel
theorem dX8_isStageAsTold_21 : decode cX8_isStageAsTold 21 = .ok (.lload_n 1, 1) := by decide +kernel
theorem dX8_isStageAsTold_22 : decode cX8_isStageAsTold 22 = .ok (.lconst 1, 1) := by decide +kernel
theorem dX8_isStageAsTold_23 : decode cX8_isStageAsTold 23 = .ok (.lcmp, 1) := by decide +kernel
theorem dX8_isStageAsTold_24 : decode cX8_isStageAsTold 24 = .ok (.ifCond .lt 15, 3) := by decide +kernel
theorem dX8_isStageAsTold_27 : decode cX8_isStageAsTold 27 = .ok (.lload_n 1, 1) := by decide +kernel
theorem dX8_isStageAsTold_28 : decode cX8_isStageAsTold 28 = .ok (.ldc2_w 248, 3) := by decide +kernel
theorem dX8_isStageAsTold_31 : decode cX8_isStageAsTold 31 = .ok (.lcmp, 1) := by decide +kernel
theorem dX8_isStageAsTold_32 : decode cX8_isStageAsTold 32 = .ok (.ifCond .gt 7, 3) := by decide +kernel
theorem dX8_isStageAsTold_35 : decode cX8_isStageAsTold 35 = .ok (.iconst 1, 1) := by decide +kernel
theorem dX8_isStageAsTold_36 : decode cX8_isStageAsTold 36 = .ok (.goto 4, 3) := by decide +kernel
theorem dX8_isStageAsTold_39 : decode cX8_isStageAsTold 39 = .ok (.iconst 0, 1) := by decide +kernel
theorem dX8_isStageAsTold_40 : decode cX8_isStageAsTold 40 = .ok (.istore 5, 2) := by decide +kernel
theorem dX8_isStageAsTold_42 : decode cX8_isStageAsTold 42 = .ok (.iload_n 0, 1) := by decide +kernel
theorem dX8_isStageAsTold_43 : decode cX8_isStageAsTold 43 = .ok (.tableswitch 126 0 4 #[33, 49, 64, 79, 103], 33) := by decide +kernel
theorem dX8_isStageAsTold_76 : decode cX8_isStageAsTold 76 = .ok (.lload_n 1, 1) := by decide +kernel
theorem dX8_isStageAsTold_77 : decode cX8_isStageAsTold 77 = .ok (.lconst 0, 1) := by decide +kernel
theorem dX8_isStageAsTold_78 : decode cX8_isStageAsTold 78 = .ok (.lcmp, 1) := by decide +kernel
theorem dX8_isStageAsTold_79 : decode cX8_isStageAsTold 79 = .ok (.ifCond .ne 11, 3) := by decide +kernel
theorem dX8_isStageAsTold_82 : decode cX8_isStageAsTold 82 = .ok (.iload_n 3, 1) := by decide +kernel
theorem dX8_isStageAsTold_83 : decode cX8_isStageAsTold 83 = .ok (.ifCond .ne 7, 3) := by decide +kernel
theorem dX8_isStageAsTold_86 : decode cX8_isStageAsTold 86 = .ok (.iconst 1, 1) := by decide +kernel
theorem dX8_isStageAsTold_87 : decode cX8_isStageAsTold 87 = .ok (.goto 4, 3) := by decide +kernel
theorem dX8_isStageAsTold_90 : decode cX8_isStageAsTold 90 = .ok (.iconst 0, 1) := by decide +kernel
theorem dX8_isStageAsTold_91 : decode cX8_isStageAsTold 91 = .ok (.ireturn, 1) := by decide +kernel
theorem dX8_isStageAsTold_92 : decode cX8_isStageAsTold 92 = .ok (.iload 4, 2) := by decide +kernel
theorem dX8_isStageAsTold_94 : decode cX8_isStageAsTold 94 = .ok (.ifCond .eq 11, 3) := by decide +kernel
theorem dX8_isStageAsTold_97 : decode cX8_isStageAsTold 97 = .ok (.iload_n 3, 1) := by decide +kernel
theorem dX8_isStageAsTold_98 : decode cX8_isStageAsTold 98 = .ok (.ifCond .ne 7, 3) := by decide +kernel
theorem dX8_isStageAsTold_101 : decode cX8_isStageAsTold 101 = .ok (.iconst 1, 1) := by decide +kernel
theorem dX8_isStageAsTold_102 : decode cX8_isStageAsTold 102 = .ok (.goto 4, 3) := by decide +kernel
theorem dX8_isStageAsTold_105 : decode cX8_isStageAsTold 105 = .ok (.iconst 0, 1) := by decide +kernel
theorem dX8_isStageAsTold_106 : decode cX8_isStageAsTold 106 = .ok (.ireturn, 1) := by decide +kernel
theorem dX8_isStageAsTold_107 : decode cX8_isStageAsTold 107 = .ok (.iload 5, 2) := by decide +kernel
theorem dX8_isStageAsTold_109 : decode cX8_isStageAsTold 109 = .ok (.ifCond .eq 11, 3) := by decide +kernel
theorem dX8_isStageAsTold_112 : decode cX8_isStageAsTold 112 = .ok (.iload_n 3, 1) := by decide +kernel
theorem dX8_isStageAsTold_113 : decode cX8_isStageAsTold 113 = .ok (.ifCond .ne 7, 3) := by decide +kernel
theorem dX8_isStageAsTold_116 : decode cX8_isStageAsTold 116 = .ok (.iconst 1, 1) := by decide +kernel
theorem dX8_isStageAsTold_117 : decode cX8_isStageAsTold 117 = .ok (.goto 4, 3) := by decide +kernel
theorem dX8_isStageAsTold_120 : decode cX8_isStageAsTold 120 = .ok (.iconst 0, 1) := by decide +kernel
theorem dX8_isStageAsTold_121 : decode cX8_isStageAsTold 121 = .ok (.ireturn, 1) := by decide +kernel
theorem dX8_isStageAsTold_122 : decode cX8_isStageAsTold 122 = .ok (.iload 5, 2) := by decide +kernel
theorem dX8_isStageAsTold_124 : decode cX8_isStageAsTold 124 = .ok (.ifCond .eq 20, 3) := by decide +kernel
theorem dX8_isStageAsTold_127 : decode cX8_isStageAsTold 127 = .ok (.iload_n 3, 1) := by decide +kernel
theorem dX8_isStageAsTold_128 : decode cX8_isStageAsTold 128 = .ok (.ifCond .lt 16, 3) := by decide +kernel
theorem dX8_isStageAsTold_131 : decode cX8_isStageAsTold 131 = .ok (.iload_n 3, 1) := by decide +kernel
theorem dX8_isStageAsTold_132 : decode cX8_isStageAsTold 132 = .ok (.i2l, 1) := by decide +kernel
theorem dX8_isStageAsTold_133 : decode cX8_isStageAsTold 133 = .ok (.ldc2_w 296, 3) := by decide +kernel
theorem dX8_isStageAsTold_136 : decode cX8_isStageAsTold 136 = .ok (.lcmp, 1) := by decide +kernel
theorem dX8_isStageAsTold_137 : decode cX8_isStageAsTold 137 = .ok (.ifCond .gt 7, 3) := by decide +kernel
theorem dX8_isStageAsTold_140 : decode cX8_isStageAsTold 140 = .ok (.iconst 1, 1) := by decide +kernel
theorem dX8_isStageAsTold_141 : decode cX8_isStageAsTold 141 = .ok (.goto 4, 3) := by decide +kernel
theorem dX8_isStageAsTold_144 : decode cX8_isStageAsTold 144 = .ok (.iconst 0, 1) := by decide +kernel
theorem dX8_isStageAsTold_145 : decode cX8_isStageAsTold 145 = .ok (.ireturn, 1) := by decide +kernel
theorem dX8_isStageAsTold_146 : decode cX8_isStageAsTold 146 = .ok (.iload 4, 2) := by decide +kernel
theorem dX8_isStageAsTold_148 : decode cX8_isStageAsTold 148 = .ok (.ifCond .eq 19, 3) := by decide +kernel
theorem dX8_isStageAsTold_151 : decode cX8_isStageAsTold 151 = .ok (.iload_n 3, 1) := by decide +kernel
theorem dX8_isStageAsTold_152 : decode cX8_isStageAsTold 152 = .ok (.bipush (-100), 2) := by decide +kernel
theorem dX8_isStageAsTold_154 : decode cX8_isStageAsTold 154 = .ok (.if_icmp .lt 13, 3) := by decide +kernel
theorem dX8_isStageAsTold_157 : decode cX8_isStageAsTold 157 = .ok (.iload_n 3, 1) := by decide +kernel
theorem dX8_isStageAsTold_158 : decode cX8_isStageAsTold 158 = .ok (.bipush 100, 2) := by decide +kernel
theorem dX8_isStageAsTold_160 : decode cX8_isStageAsTold 160 = .ok (.if_icmp .gt 7, 3) := by decide +kernel
theorem dX8_isStageAsTold_163 : decode cX8_isStageAsTold 163 = .ok (.iconst 1, 1) := by decide +kernel
theorem dX8_isStageAsTold_164 : decode cX8_isStageAsTold 164 = .ok (.goto 4, 3) := by decide +kernel
theorem dX8_isStageAsTold_167 : decode cX8_isStageAsTold 167 = .ok (.iconst 0, 1) := by decide +kernel
theorem dX8_isStageAsTold_168 : decode cX8_isStageAsTold 168 = .ok (.ireturn, 1) := by decide +kernel
theorem dX8_isStageAsTold_169 : decode cX8_isStageAsTold 169 = .ok (.iconst 0, 1) := by decide +kernel
theorem dX8_isStageAsTold_170 : decode cX8_isStageAsTold 170 = .ok (.ireturn, 1) := by decide +kernel
theorem dX8_bitsAsHeld_0 : decode cX8_bitsAsHeld 0 = .ok (.iload_n 0, 1) := by decide +kernel
theorem dX8_bitsAsHeld_1 : decode cX8_bitsAsHeld 1 = .ok (.tableswitch 69 0 4 #[35, 40, 45, 49, 51], 35) := by decide +kernel
theorem dX8_bitsAsHeld_36 : decode cX8_bitsAsHeld 36 = .ok (.lload_n 1, 1) := by decide +kernel
theorem dX8_bitsAsHeld_37 : decode cX8_bitsAsHeld 37 = .ok (.l2i, 1) := by decide +kernel
theorem dX8_bitsAsHeld_38 : decode cX8_bitsAsHeld 38 = .ok (.i2b, 1) := by decide +kernel
theorem dX8_bitsAsHeld_39 : decode cX8_bitsAsHeld 39 = .ok (.i2l, 1) := by decide +kernel
theorem dX8_bitsAsHeld_40 : decode cX8_bitsAsHeld 40 = .ok (.lreturn, 1) := by decide +kernel
theorem dX8_bitsAsHeld_41 : decode cX8_bitsAsHeld 41 = .ok (.lload_n 1, 1) := by decide +kernel
theorem dX8_bitsAsHeld_42 : decode cX8_bitsAsHeld 42 = .ok (.l2i, 1) := by decide +kernel
theorem dX8_bitsAsHeld_43 : decode cX8_bitsAsHeld 43 = .ok (.i2s, 1) := by decide +kernel
theorem dX8_bitsAsHeld_44 : decode cX8_bitsAsHeld 44 = .ok (.i2l, 1) := by decide +kernel
theorem dX8_bitsAsHeld_45 : decode cX8_bitsAsHeld 45 = .ok (.lreturn, 1) := by decide +kernel
theorem dX8_bitsAsHeld_46 : decode cX8_bitsAsHeld 46 = .ok (.lload_n 1, 1) := by decide +kernel
theorem dX8_bitsAsHeld_47 : decode cX8_bitsAsHeld 47 = .ok (.l2i, 1) := by decide +kernel
theorem dX8_bitsAsHeld_48 : decode cX8_bitsAsHeld 48 = .ok (.i2l, 1) := by decide +kernel
theorem dX8_bitsAsHeld_49 : decode cX8_bitsAsHeld 49 = .ok (.lreturn, 1) := by decide +kernel
theorem dX8_bitsAsHeld_50 : decode cX8_bitsAsHeld 50 = .ok (.lload_n 1, 1) := by decide +kernel
theorem dX8_bitsAsHeld_51 : decode cX8_bitsAsHeld 51 = .ok (.lreturn, 1) := by decide +kernel
theorem dX8_bitsAsHeld_52 : decode cX8_bitsAsHeld 52 = .ok (.iload_n 0, 1) := by decide +kernel
theorem dX8_bitsAsHeld_53 : decode cX8_bitsAsHeld 53 = .ok (.lload_n 1, 1) := by decide +kernel
theorem dX8_bitsAsHeld_54 : decode cX8_bitsAsHeld 54 = .ok (.invokestatic 298, 3) := by decide +kernel
theorem dX8_bitsAsHeld_57 : decode cX8_bitsAsHeld 57 = .ok (.ifCond .eq 9, 3) := by decide +kernel
theorem dX8_bitsAsHeld_60 : decode cX8_bitsAsHeld 60 = .ok (.ldc2_w 301, 3) := by decide +kernel
theorem dX8_bitsAsHeld_63 : decode cX8_bitsAsHeld 63 = .ok (.goto 6, 3) := by decide +kernel
theorem dX8_bitsAsHeld_66 : decode cX8_bitsAsHeld 66 = .ok (.lload_n 1, 1) := by decide +kernel
theorem dX8_bitsAsHeld_67 : decode cX8_bitsAsHeld 67 = .ok (.l2i, 1) := by decide +kernel
theorem dX8_bitsAsHeld_68 : decode cX8_bitsAsHeld 68 = .ok (.i2l, 1) := by decide +kernel
theorem dX8_bitsAsHeld_69 : decode cX8_bitsAsHeld 69 = .ok (.lreturn, 1) := by decide +kernel
theorem dX8_bitsAsHeld_70 : decode cX8_bitsAsHeld 70 = .ok (.iload_n 0, 1) := by decide +kernel
theorem dX8_bitsAsHeld_71 : decode cX8_bitsAsHeld 71 = .ok (.lload_n 1, 1) := by decide +kernel
theorem dX8_bitsAsHeld_72 : decode cX8_bitsAsHeld 72 = .ok (.invokestatic 298, 3) := by decide +kernel
theorem dX8_bitsAsHeld_75 : decode cX8_bitsAsHeld 75 = .ok (.ifCond .eq 9, 3) := by decide +kernel
theorem dX8_bitsAsHeld_78 : decode cX8_bitsAsHeld 78 = .ok (.ldc2_w 303, 3) := by decide +kernel
theorem dX8_bitsAsHeld_81 : decode cX8_bitsAsHeld 81 = .ok (.goto 4, 3) := by decide +kernel
theorem dX8_bitsAsHeld_84 : decode cX8_bitsAsHeld 84 = .ok (.lload_n 1, 1) := by decide +kernel
theorem dX8_bitsAsHeld_85 : decode cX8_bitsAsHeld 85 = .ok (.lreturn, 1) := by decide +kernel
theorem dX8_isNoNumber_0 : decode cX8_isNoNumber 0 = .ok (.iload_n 0, 1) := by decide +kernel
theorem dX8_isNoNumber_1 : decode cX8_isNoNumber 1 = .ok (.iconst 4, 1) := by decide +kernel
theorem dX8_isNoNumber_2 : decode cX8_isNoNumber 2 = .ok (.if_icmp .ge 5, 3) := by decide +kernel
theorem dX8_isNoNumber_5 : decode cX8_isNoNumber 5 = .ok (.iconst 0, 1) := by decide +kernel
theorem dX8_isNoNumber_6 : decode cX8_isNoNumber 6 = .ok (.ireturn, 1) := by decide +kernel
theorem dX8_isNoNumber_7 : decode cX8_isNoNumber 7 = .ok (.iload_n 0, 1) := by decide +kernel
theorem dX8_isNoNumber_8 : decode cX8_isNoNumber 8 = .ok (.iconst 4, 1) := by decide +kernel
theorem dX8_isNoNumber_9 : decode cX8_isNoNumber 9 = .ok (.if_icmp .ne 21, 3) := by decide +kernel
theorem dX8_isNoNumber_12 : decode cX8_isNoNumber 12 = .ok (.lload_n 1, 1) := by decide +kernel
theorem dX8_isNoNumber_13 : decode cX8_isNoNumber 13 = .ok (.ldc2_w 305, 3) := by decide +kernel
theorem dX8_isNoNumber_16 : decode cX8_isNoNumber 16 = .ok (.land, 1) := by decide +kernel
theorem dX8_isNoNumber_17 : decode cX8_isNoNumber 17 = .ok (.ldc2_w 307, 3) := by decide +kernel
theorem dX8_isNoNumber_20 : decode cX8_isNoNumber 20 = .ok (.lcmp, 1) := by decide +kernel
theorem dX8_isNoNumber_21 : decode cX8_isNoNumber 21 = .ok (.ifCond .le 7, 3) := by decide +kernel
theorem dX8_isNoNumber_24 : decode cX8_isNoNumber 24 = .ok (.iconst 1, 1) := by decide +kernel
theorem dX8_isNoNumber_25 : decode cX8_isNoNumber 25 = .ok (.goto 4, 3) := by decide +kernel
theorem dX8_isNoNumber_28 : decode cX8_isNoNumber 28 = .ok (.iconst 0, 1) := by decide +kernel
theorem dX8_isNoNumber_29 : decode cX8_isNoNumber 29 = .ok (.ireturn, 1) := by decide +kernel
theorem dX8_isNoNumber_30 : decode cX8_isNoNumber 30 = .ok (.lload_n 1, 1) := by decide +kernel
theorem dX8_isNoNumber_31 : decode cX8_isNoNumber 31 = .ok (.ldc2_w 309, 3) := by decide +kernel
theorem dX8_isNoNumber_34 : decode cX8_isNoNumber 34 = .ok (.land, 1) := by decide +kernel
theorem dX8_isNoNumber_35 : decode cX8_isNoNumber 35 = .ok (.ldc2_w 311, 3) := by decide +kernel
theorem dX8_isNoNumber_38 : decode cX8_isNoNumber 38 = .ok (.lcmp, 1) := by decide +kernel
theorem dX8_isNoNumber_39 : decode cX8_isNoNumber 39 = .ok (.ifCond .le 7, 3) := by decide +kernel
theorem dX8_isNoNumber_42 : decode cX8_isNoNumber 42 = .ok (.iconst 1, 1) := by decide +kernel
theorem dX8_isNoNumber_43 : decode cX8_isNoNumber 43 = .ok (.goto 4, 3) := by decide +kernel
theorem dX8_isNoNumber_46 : decode cX8_isNoNumber 46 = .ok (.iconst 0, 1) := by decide +kernel
theorem dX8_isNoNumber_47 : decode cX8_isNoNumber 47 = .ok (.ireturn, 1) := by decide +kernel
theorem dX8_cutToSample_0 : decode cX8_cutToSample 0 = .ok (.iload_n 0, 1) := by decide +kernel
theorem dX8_cutToSample_1 : decode cX8_cutToSample 1 = .ok (.iconst 4, 1) := by decide +kernel
theorem dX8_cutToSample_2 : decode cX8_cutToSample 2 = .ok (.if_icmp .ge 17, 3) := by decide +kernel
theorem dX8_cutToSample_5 : decode cX8_cutToSample 5 = .ok (.ldc2_w 292, 3) := by decide +kernel
theorem dX8_cutToSample_8 : decode cX8_cutToSample 8 = .ok (.ldc2_w 294, 3) := by decide +kernel
theorem dX8_cutToSample_11 : decode cX8_cutToSample 11 = .ok (.lload_n 1, 1) := by decide +kernel
theorem dX8_cutToSample_12 : decode cX8_cutToSample 12 = .ok (.invokestatic 313, 3) := by decide +kernel
theorem dX8_cutToSample_15 : decode cX8_cutToSample 15 = .ok (.invokestatic 319, 3) := by decide +kernel
theorem dX8_cutToSample_18 : decode cX8_cutToSample 18 = .ok (.lreturn, 1) := by decide +kernel
theorem dX8_cutToSample_19 : decode cX8_cutToSample 19 = .ok (.iload_n 0, 1) := by decide +kernel
theorem dX8_cutToSample_20 : decode cX8_cutToSample 20 = .ok (.iconst 4, 1) := by decide +kernel
theorem dX8_cutToSample_21 : decode cX8_cutToSample 21 = .ok (.if_icmp .ne 27, 3) := by decide +kernel
theorem dX8_cutToSample_24 : decode cX8_cutToSample 24 = .ok (.lload_n 1, 1) := by decide +kernel
theorem dX8_cutToSample_25 : decode cX8_cutToSample 25 = .ok (.bipush 23, 2) := by decide +kernel
theorem dX8_cutToSample_27 : decode cX8_cutToSample 27 = .ok (.lushr, 1) := by decide +kernel
theorem dX8_cutToSample_28 : decode cX8_cutToSample 28 = .ok (.ldc2_w 322, 3) := by decide +kernel
theorem dX8_cutToSample_31 : decode cX8_cutToSample 31 = .ok (.land, 1) := by decide +kernel
theorem dX8_cutToSample_32 : decode cX8_cutToSample 32 = .ok (.lload_n 1, 1) := by decide +kernel
theorem dX8_cutToSample_33 : decode cX8_cutToSample 33 = .ok (.ldc2_w 324, 3) := by decide +kernel
theorem dX8_cutToSample_36 : decode cX8_cutToSample 36 = .ok (.land, 1) := by decide +kernel
theorem dX8_cutToSample_37 : decode cX8_cutToSample 37 = .ok (.bipush 23, 2) := by decide +kernel
theorem dX8_cutToSample_39 : decode cX8_cutToSample 39 = .ok (.bipush 127, 2) := by decide +kernel
theorem dX8_cutToSample_41 : decode cX8_cutToSample 41 = .ok (.invokestatic 326, 3) := by decide +kernel
theorem dX8_cutToSample_44 : decode cX8_cutToSample 44 = .ok (.lstore_n 3, 1) := by decide +kernel
theorem dX8_cutToSample_45 : decode cX8_cutToSample 45 = .ok (.goto 25, 3) := by decide +kernel
theorem dX8_cutToSample_48 : decode cX8_cutToSample 48 = .ok (.lload_n 1, 1) := by decide +kernel
theorem dX8_cutToSample_49 : decode cX8_cutToSample 49 = .ok (.bipush 52, 2) := by decide +kernel
theorem dX8_cutToSample_51 : decode cX8_cutToSample 51 = .ok (.lushr, 1) := by decide +kernel
theorem dX8_cutToSample_52 : decode cX8_cutToSample 52 = .ok (.ldc2_w 330, 3) := by decide +kernel
theorem dX8_cutToSample_55 : decode cX8_cutToSample 55 = .ok (.land, 1) := by decide +kernel
theorem dX8_cutToSample_56 : decode cX8_cutToSample 56 = .ok (.lload_n 1, 1) := by decide +kernel
theorem dX8_cutToSample_57 : decode cX8_cutToSample 57 = .ok (.ldc2_w 332, 3) := by decide +kernel
theorem dX8_cutToSample_60 : decode cX8_cutToSample 60 = .ok (.land, 1) := by decide +kernel
theorem dX8_cutToSample_61 : decode cX8_cutToSample 61 = .ok (.bipush 52, 2) := by decide +kernel
theorem dX8_cutToSample_63 : decode cX8_cutToSample 63 = .ok (.sipush 1023, 3) := by decide +kernel
theorem dX8_cutToSample_66 : decode cX8_cutToSample 66 = .ok (.invokestatic 326, 3) := by decide +kernel
theorem dX8_cutToSample_69 : decode cX8_cutToSample 69 = .ok (.lstore_n 3, 1) := by decide +kernel
theorem dX8_cutToSample_70 : decode cX8_cutToSample 70 = .ok (.lload_n 1, 1) := by decide +kernel
theorem dX8_cutToSample_71 : decode cX8_cutToSample 71 = .ok (.lconst 0, 1) := by decide +kernel
theorem dX8_cutToSample_72 : decode cX8_cutToSample 72 = .ok (.lcmp, 1) := by decide +kernel
theorem dX8_cutToSample_73 : decode cX8_cutToSample 73 = .ok (.ifCond .ge 8, 3) := by decide +kernel
theorem dX8_cutToSample_76 : decode cX8_cutToSample 76 = .ok (.lload_n 3, 1) := by decide +kernel
theorem dX8_cutToSample_77 : decode cX8_cutToSample 77 = .ok (.lneg, 1) := by decide +kernel
theorem dX8_cutToSample_78 : decode cX8_cutToSample 78 = .ok (.goto 4, 3) := by decide +kernel
theorem dX8_cutToSample_81 : decode cX8_cutToSample 81 = .ok (.lload_n 3, 1) := by decide +kernel
theorem dX8_cutToSample_82 : decode cX8_cutToSample 82 = .ok (.lreturn, 1) := by decide +kernel
theorem dX8_sizeOfParts_0 : decode cX8_sizeOfParts 0 = .ok (.lload_n 0, 1) := by decide +kernel
theorem dX8_sizeOfParts_1 : decode cX8_sizeOfParts 1 = .ok (.l2i, 1) := by decide +kernel
theorem dX8_sizeOfParts_2 : decode cX8_sizeOfParts 2 = .ok (.iload 5, 2) := by decide +kernel
theorem dX8_sizeOfParts_4 : decode cX8_sizeOfParts 4 = .ok (.isub, 1) := by decide +kernel
theorem dX8_sizeOfParts_5 : decode cX8_sizeOfParts 5 = .ok (.istore 6, 2) := by decide +kernel
theorem dX8_sizeOfParts_7 : decode cX8_sizeOfParts 7 = .ok (.iload 6, 2) := by decide +kernel
theorem dX8_sizeOfParts_9 : decode cX8_sizeOfParts 9 = .ok (.ifCond .ge 5, 3) := by decide +kernel
theorem dX8_sizeOfParts_12 : decode cX8_sizeOfParts 12 = .ok (.lconst 0, 1) := by decide +kernel
theorem dX8_sizeOfParts_13 : decode cX8_sizeOfParts 13 = .ok (.lreturn, 1) := by decide +kernel
theorem dX8_sizeOfParts_14 : decode cX8_sizeOfParts 14 = .ok (.iload 6, 2) := by decide +kernel
theorem dX8_sizeOfParts_16 : decode cX8_sizeOfParts 16 = .ok (.bipush 40, 2) := by decide +kernel
theorem dX8_sizeOfParts_18 : decode cX8_sizeOfParts 18 = .ok (.if_icmp .lt 7, 3) := by decide +kernel
theorem dX8_sizeOfParts_21 : decode cX8_sizeOfParts 21 = .ok (.ldc2_w 294, 3) := by decide +kernel
theorem dX8_sizeOfParts_24 : decode cX8_sizeOfParts 24 = .ok (.lreturn, 1) := by decide +kernel
theorem dX8_sizeOfParts_25 : decode cX8_sizeOfParts 25 = .ok (.lload_n 2, 1) := by decide +kernel
theorem dX8_sizeOfParts_26 : decode cX8_sizeOfParts 26 = .ok (.lconst 1, 1) := by decide +kernel
theorem dX8_sizeOfParts_27 : decode cX8_sizeOfParts 27 = .ok (.iload 4, 2) := by decide +kernel
theorem dX8_sizeOfParts_29 : decode cX8_sizeOfParts 29 = .ok (.lshl, 1) := by decide +kernel
theorem dX8_sizeOfParts_30 : decode cX8_sizeOfParts 30 = .ok (.lor, 1) := by decide +kernel
theorem dX8_sizeOfParts_31 : decode cX8_sizeOfParts 31 = .ok (.lstore 7, 2) := by decide +kernel
theorem dX8_sizeOfParts_33 : decode cX8_sizeOfParts 33 = .ok (.iload 6, 2) := by decide +kernel
theorem dX8_sizeOfParts_35 : decode cX8_sizeOfParts 35 = .ok (.iload 4, 2) := by decide +kernel
theorem dX8_sizeOfParts_37 : decode cX8_sizeOfParts 37 = .ok (.if_icmp .lt 14, 3) := by decide +kernel
theorem dX8_sizeOfParts_40 : decode cX8_sizeOfParts 40 = .ok (.lload 7, 2) := by decide +kernel
theorem dX8_sizeOfParts_42 : decode cX8_sizeOfParts 42 = .ok (.iload 6, 2) := by decide +kernel
theorem dX8_sizeOfParts_44 : decode cX8_sizeOfParts 44 = .ok (.iload 4, 2) := by decide +kernel
theorem dX8_sizeOfParts_46 : decode cX8_sizeOfParts 46 = .ok (.isub, 1) := by decide +kernel
theorem dX8_sizeOfParts_47 : decode cX8_sizeOfParts 47 = .ok (.lshl, 1) := by decide +kernel
theorem dX8_sizeOfParts_48 : decode cX8_sizeOfParts 48 = .ok (.goto 11, 3) := by decide +kernel
theorem dX8_sizeOfParts_51 : decode cX8_sizeOfParts 51 = .ok (.lload 7, 2) := by decide +kernel
theorem dX8_sizeOfParts_53 : decode cX8_sizeOfParts 53 = .ok (.iload 4, 2) := by decide +kernel
theorem dX8_sizeOfParts_55 : decode cX8_sizeOfParts 55 = .ok (.iload 6, 2) := by decide +kernel
theorem dX8_sizeOfParts_57 : decode cX8_sizeOfParts 57 = .ok (.isub, 1) := by decide +kernel
theorem dX8_sizeOfParts_58 : decode cX8_sizeOfParts 58 = .ok (.lushr, 1) := by decide +kernel
theorem dX8_sizeOfParts_59 : decode cX8_sizeOfParts 59 = .ok (.lstore 9, 2) := by decide +kernel
theorem dX8_sizeOfParts_61 : decode cX8_sizeOfParts 61 = .ok (.ldc2_w 294, 3) := by decide +kernel
theorem dX8_sizeOfParts_64 : decode cX8_sizeOfParts 64 = .ok (.lload 9, 2) := by decide +kernel
theorem dX8_sizeOfParts_66 : decode cX8_sizeOfParts 66 = .ok (.invokestatic 313, 3) := by decide +kernel
theorem dX8_sizeOfParts_69 : decode cX8_sizeOfParts 69 = .ok (.lreturn, 1) := by decide +kernel
theorem dX9_init_0 : decode cX9_init 0 = .ok (.aload_n 0, 1) := by decide +kernel
theorem dX9_init_1 : decode cX9_init 1 = .ok (.invokespecial 1, 3) := by decide +kernel
theorem dX9_init_4 : decode cX9_init 4 = .ok (.aload_n 0, 1) := by decide +kernel
theorem dX9_init_5 : decode cX9_init 5 = .ok (.bipush 6, 2) := by decide +kernel
theorem dX9_init_7 : decode cX9_init 7 = .ok (.newarray .boolean, 2) := by decide +kernel
theorem dX9_init_9 : decode cX9_init 9 = .ok (.putfield 7, 3) := by decide +kernel
theorem dX9_init_12 : decode cX9_init 12 = .ok (.aload_n 0, 1) := by decide +kernel
theorem dX9_init_13 : decode cX9_init 13 = .ok (.bipush 6, 2) := by decide +kernel
theorem dX9_init_15 : decode cX9_init 15 = .ok (.newarray .int, 2) := by decide +kernel
theorem dX9_init_17 : decode cX9_init 17 = .ok (.putfield 13, 3) := by decide +kernel
theorem dX9_init_20 : decode cX9_init 20 = .ok (.aload_n 0, 1) := by decide +kernel
theorem dX9_init_21 : decode cX9_init 21 = .ok (.bipush 6, 2) := by decide +kernel
theorem dX9_init_23 : decode cX9_init 23 = .ok (.newarray .int, 2) := by decide +kernel
theorem dX9_init_25 : decode cX9_init 25 = .ok (.putfield 17, 3) := by decide +kernel
theorem dX9_init_28 : decode cX9_init 28 = .ok (.aload_n 0, 1) := by decide +kernel
theorem dX9_init_29 : decode cX9_init 29 = .ok (.sipush 360, 3) := by decide +kernel
theorem dX9_init_32 : decode cX9_init 32 = .ok (.newarray .long, 2) := by decide +kernel
theorem dX9_init_34 : decode cX9_init 34 = .ok (.putfield 20, 3) := by decide +kernel
theorem dX9_init_37 : decode cX9_init 37 = .ok (.aload_n 0, 1) := by decide +kernel
theorem dX9_init_38 : decode cX9_init 38 = .ok (.bipush 60, 2) := by decide +kernel
theorem dX9_init_40 : decode cX9_init 40 = .ok (.newarray .long, 2) := by decide +kernel
theorem dX9_init_42 : decode cX9_init 42 = .ok (.putfield 24, 3) := by decide +kernel
theorem dX9_init_45 : decode cX9_init 45 = .ok (.aload_n 0, 1) := by decide +kernel
theorem dX9_init_46 : decode cX9_init 46 = .ok (.iconst 5, 1) := by decide +kernel
theorem dX9_init_47 : decode cX9_init 47 = .ok (.newarray .int, 2) := by decide +kernel
theorem dX9_init_49 : decode cX9_init 49 = .ok (.putfield 27, 3) := by decide +kernel
theorem dX9_init_52 : decode cX9_init 52 = .ok (.aload_n 0, 1) := by decide +kernel
theorem dX9_init_53 : decode cX9_init 53 = .ok (.iconst 5, 1) := by decide +kernel
theorem dX9_init_54 : decode cX9_init 54 = .ok (.newarray .long, 2) := by decide +kernel
theorem dX9_init_56 : decode cX9_init 56 = .ok (.putfield 30, 3) := by decide +kernel
theorem dX9_init_59 : decode cX9_init 59 = .ok (.aload_n 0, 1) := by decide +kernel
theorem dX9_init_60 : decode cX9_init 60 = .ok (.iconst 5, 1) := by decide +kernel
theorem dX9_init_61 : decode cX9_init 61 = .ok (.newarray .int, 2) := by decide +kernel
theorem dX9_init_63 : decode cX9_init 63 = .ok (.putfield 33, 3) := by decide +kernel
theorem dX9_init_66 : decode cX9_init 66 = .ok (.aload_n 0, 1) := by decide +kernel
theorem dX9_init_67 : decode cX9_init 67 = .ok (.bipush 16, 2) := by decide +kernel
theorem dX9_init_69 : decode cX9_init 69 = .ok (.newarray .long, 2) := by decide +kernel
theorem dX9_init_71 : decode cX9_init 71 = .ok (.putfield 36, 3) := by decide +kernel
theorem dX9_init_74 : decode cX9_init 74 = .ok (.aload_n 0, 1) := by decide +kernel
theorem dX9_init_75 : decode cX9_init 75 = .ok (.bipush 30, 2) := by decide +kernel
theorem dX9_init_77 : decode cX9_init 77 = .ok (.newarray .long, 2) := by decide +kernel
theorem dX9_init_79 : decode cX9_init 79 = .ok (.putfield 39, 3) := by decide +kernel
theorem dX9_init_82 : decode cX9_init 82 = .ok (.aload_n 0, 1) := by decide +kernel
theorem dX9_init_83 : decode cX9_init 83 = .ok (.sipush 300, 3) := by decide +kernel
theorem dX9_init_86 : decode cX9_init 86 = .ok (.newarray .long, 2) := by decide +kernel
theorem dX9_init_88 : decode cX9_init 88 = .ok (.putfield 42, 3) := by decide +kernel
theorem dX9_init_91 : decode cX9_init 91 = .ok (.aload_n 0, 1) := by decide +kernel
theorem dX9_init_92 : decode cX9_init 92 = .ok (.sipush 2100, 3) := by decide +kernel
theorem dX9_init_95 : decode cX9_init 95 = .ok (.newarray .long, 2) := by decide +kernel
theorem dX9_init_97 : decode cX9_init 97 = .ok (.putfield 45, 3) := by decide +kernel
theorem dX9_init_100 : decode cX9_init 100 = .ok (.aload_n 0, 1) := by decide +kernel
theorem dX9_init_101 : decode cX9_init 101 = .ok (.bipush 40, 2) := by decide +kernel
theorem dX9_init_103 : decode cX9_init 103 = .ok (.newarray .int, 2) := by decide +kernel
theorem dX9_init_105 : decode cX9_init 105 = .ok (.putfield 48, 3) := by decide +kernel
theorem dX9_init_108 : decode cX9_init 108 = .ok (.aload_n 0, 1) := by decide +kernel
theorem dX9_init_109 : decode cX9_init 109 = .ok (.bipush 30, 2) := by decide +kernel
theorem dX9_init_111 : decode cX9_init 111 = .ok (.newarray .long, 2) := by decide +kernel
theorem dX9_init_113 : decode cX9_init 113 = .ok (.putfield 51, 3) := by decide +kernel
theorem dX9_init_116 : decode cX9_init 116 = .ok (.aload_n 0, 1) := by decide +kernel
theorem dX9_init_117 : decode cX9_init 117 = .ok (.bipush 40, 2) := by decide +kernel
theorem dX9_init_119 : decode cX9_init 119 = .ok (.newarray .int, 2) := by decide +kernel
theorem dX9_init_121 : decode cX9_init 121 = .ok (.putfield 54, 3) := by decide +kernel
theorem dX9_init_124 : decode cX9_init 124 = .ok (.aload_n 0, 1) := by decide +kernel
theorem dX9_init_125 : decode cX9_init 125 = .ok (.bipush 8, 2) := by decide +kernel
theorem dX9_init_127 : decode cX9_init 127 = .ok (.newarray .int, 2) := by decide +kernel
theorem dX9_init_129 : decode cX9_init 129 = .ok (.putfield 57, 3) := by decide +kernel
theorem dX9_init_132 : decode cX9_init 132 = .ok (.aload_n 0, 1) := by decide +kernel
theorem dX9_init_133 : decode cX9_init 133 = .ok (.iconst 5, 1) := by decide +kernel
theorem dX9_init_134 : decode cX9_init 134 = .ok (.newarray .long, 2) := by decide +kernel
theorem dX9_init_136 : decode cX9_init 136 = .ok (.putfield 60, 3) := by decide +kernel
theorem dX9_init_139 : decode cX9_init 139 = .ok (.aload_n 0, 1) := by decide +kernel
theorem dX9_init_140 : decode cX9_init 140 = .ok (.sipush 4812, 3) := by decide +kernel
theorem dX9_init_143 : decode cX9_init 143 = .ok (.newarray .long, 2) := by decide +kernel
theorem dX9_init_145 : decode cX9_init 145 = .ok (.putfield 63, 3) := by decide +kernel
theorem dX9_init_148 : decode cX9_init 148 = .ok (.aload_n 0, 1) := by decide +kernel
theorem dX9_init_149 : decode cX9_init 149 = .ok (.iconst 3, 1) := by decide +kernel
theorem dX9_init_150 : decode cX9_init 150 = .ok (.newarray .long, 2) := by decide +kernel
theorem dX9_init_152 : decode cX9_init 152 = .ok (.putfield 66, 3) := by decide +kernel
theorem dX9_init_155 : decode cX9_init 155 = .ok (.aload_n 0, 1) := by decide +kernel
theorem dX9_init_156 : decode cX9_init 156 = .ok (.sipush 500, 3) := by decide +kernel
theorem dX9_init_159 : decode cX9_init 159 = .ok (.newarray .long, 2) := by decide +kernel
theorem dX9_init_161 : decode cX9_init 161 = .ok (.putfield 69, 3) := by decide +kernel
theorem dX9_init_164 : decode cX9_init 164 = .ok (.aload_n 0, 1) := by decide +kernel
theorem dX9_init_165 : decode cX9_init 165 = .ok (.sipush 500, 3) := by decide +kernel
theorem dX9_init_168 : decode cX9_init 168 = .ok (.newarray .long, 2) := by decide +kernel
theorem dX9_init_170 : decode cX9_init 170 = .ok (.putfield 72, 3) := by decide +kernel
theorem dX9_init_173 : decode cX9_init 173 = .ok (.aload_n 0, 1) := by decide +kernel
theorem dX9_init_174 : decode cX9_init 174 = .ok (.sipush 500, 3) := by decide +kernel
theorem dX9_init_177 : decode cX9_init 177 = .ok (.newarray .int, 2) := by decide +kernel
theorem dX9_init_179 : decode cX9_init 179 = .ok (.putfield 75, 3) := by decide +kernel
theorem dX9_init_182 : decode cX9_init 182 = .ok (.aload_n 0, 1) := by decide +kernel
theorem dX9_init_183 : decode cX9_init 183 = .ok (.sipush 500, 3) := by decide +kernel
theorem dX9_init_186 : decode cX9_init 186 = .ok (.newarray .long, 2) := by decide +kernel
theorem dX9_init_188 : decode cX9_init 188 = .ok (.putfield 78, 3) := by decide +kernel
theorem dX9_init_191 : decode cX9_init 191 = .ok (.aload_n 0, 1) := by decide +kernel
theorem dX9_init_192 : decode cX9_init 192 = .ok (.sipush 501, 3) := by decide +kernel
theorem dX9_init_195 : decode cX9_init 195 = .ok (.newarray .long, 2) := by decide +kernel
theorem dX9_init_197 : decode cX9_init 197 = .ok (.putfield 81, 3) := by decide +kernel
theorem dX9_init_200 : decode cX9_init 200 = .ok (.aload_n 0, 1) := by decide +kernel
theorem dX9_init_201 : decode cX9_init 201 = .ok (.bipush 12, 2) := by decide +kernel
theorem dX9_init_203 : decode cX9_init 203 = .ok (.newarray .long, 2) := by decide +kernel
theorem dX9_init_205 : decode cX9_init 205 = .ok (.putfield 84, 3) := by decide +kernel
theorem dX9_init_208 : decode cX9_init 208 = .ok (.aload_n 0, 1) := by decide +kernel
theorem dX9_init_209 : decode cX9_init 209 = .ok (.iconst 2, 1) := by decide +kernel
theorem dX9_init_210 : decode cX9_init 210 = .ok (.putfield 87, 3) := by decide +kernel
theorem dX9_init_213 : decode cX9_init 213 = .ok (.aload_n 0, 1) := by decide +kernel
theorem dX9_init_214 : decode cX9_init 214 = .ok (.getfield 36, 3) := by decide +kernel
theorem dX9_init_217 : decode cX9_init 217 = .ok (.iconst 0, 1) := by decide +kernel
theorem dX9_init_218 : decode cX9_init 218 = .ok (.ldc2_w 91, 3) := by decide +kernel
theorem dX9_init_221 : decode cX9_init 221 = .ok (.lastore, 1) := by decide +kernel
theorem dX9_init_222 : decode cX9_init 222 = .ok (.aload_n 0, 1) := by decide +kernel
theorem dX9_init_223 : decode cX9_init 223 = .ok (.getfield 36, 3) := by decide +kernel
theorem dX9_init_226 : decode cX9_init 226 = .ok (.iconst 1, 1) := by decide +kernel
theorem dX9_init_227 : decode cX9_init 227 = .ok (.lconst 1, 1) := by decide +kernel
theorem dX9_init_228 : decode cX9_init 228 = .ok (.lastore, 1) := by decide +kernel
theorem dX9_init_229 : decode cX9_init 229 = .ok (.return_, 1) := by decide +kernel
theorem dX9_in_0 : decode cX9_in 0 = .ok (.lload_n 0, 1) := by decide +kernel
theorem dX9_in_1 : decode cX9_in 1 = .ok (.lload_n 2, 1) := by decide +kernel
theorem dX9_in_2 : decode cX9_in 2 = .ok (.lcmp, 1) := by decide +kernel
theorem dX9_in_3 : decode cX9_in 3 = .ok (.ifCond .lt 14, 3) := by decide +kernel
theorem dX9_in_6 : decode cX9_in 6 = .ok (.lload_n 0, 1) := by decide +kernel
theorem dX9_in_7 : decode cX9_in 7 = .ok (.lload 4, 2) := by decide +kernel
theorem dX9_in_9 : decode cX9_in 9 = .ok (.lcmp, 1) := by decide +kernel
theorem dX9_in_10 : decode cX9_in 10 = .ok (.ifCond .gt 7, 3) := by decide +kernel
theorem dX9_in_13 : decode cX9_in 13 = .ok (.iconst 1, 1) := by decide +kernel
theorem dX9_in_14 : decode cX9_in 14 = .ok (.goto 4, 3) := by decide +kernel
theorem dX9_in_17 : decode cX9_in 17 = .ok (.iconst 0, 1) := by decide +kernel
theorem dX9_in_18 : decode cX9_in 18 = .ok (.ireturn, 1) := by decide +kernel
theorem dX9_meets_0 : decode cX9_meets 0 = .ok (.aload_n 0, 1) := by decide +kernel
theorem dX9_meets_1 : decode cX9_meets 1 = .ok (.iload_n 1, 1) := by decide +kernel
theorem dX9_meets_2 : decode cX9_meets 2 = .ok (.putfield 93, 3) := by decide +kernel
theorem dX9_meets_5 : decode cX9_meets 5 = .ok (.bipush (-10), 2) := by decide +kernel
theorem dX9_meets_7 : decode cX9_meets 7 = .ok (.iload_n 1, 1) := by decide +kernel
theorem dX9_meets_8 : decode cX9_meets 8 = .ok (.isub, 1) := by decide +kernel
theorem dX9_meets_9 : decode cX9_meets 9 = .ok (.ireturn, 1) := by decide +kernel
theorem dX9_isReel_0 : decode cX9_isReel 0 = .ok (.iload_n 0, 1) := by decide +kernel
theorem dX9_isReel_1 : decode cX9_isReel 1 = .ok (.i2l, 1) := by decide +kernel
theorem dX9_isReel_2 : decode cX9_isReel 2 = .ok (.lconst 0, 1) := by decide +kernel
theorem dX9_isReel_3 : decode cX9_isReel 3 = .ok (.ldc2_w 96, 3) := by decide +kernel
theorem dX9_isReel_6 : decode cX9_isReel 6 = .ok (.invokestatic 98, 3) := by decide +kernel
theorem dX9_isReel_9 : decode cX9_isReel 9 = .ok (.ireturn, 1) := by decide +kernel
theorem dX9_reel_0 : decode cX9_reel 0 = .ok (.iload_n 1, 1) := by decide +kernel
theorem dX9_reel_1 : decode cX9_reel 1 = .ok (.invokestatic 102, 3) := by decide +kernel
theorem dX9_reel_4 : decode cX9_reel 4 = .ok (.ifCond .eq 21, 3) := by decide +kernel
theorem dX9_reel_7 : decode cX9_reel 7 = .ok (.iload_n 2, 1) := by decide +kernel
theorem dX9_reel_8 : decode cX9_reel 8 = .ok (.i2l, 1) := by decide +kernel
theorem dX9_reel_9 : decode cX9_reel 9 = .ok (.lconst 0, 1) := by decide +kernel
theorem dX9_reel_10 : decode cX9_reel 10 = .ok (.ldc2_w 96, 3) := by decide +kernel
theorem dX9_reel_13 : decode cX9_reel 13 = .ok (.invokestatic 98, 3) := by decide +kernel
theorem dX9_reel_16 : decode cX9_reel 16 = .ok (.ifCond .eq 9, 3) := by decide +kernel
theorem dX9_reel_19 : decode cX9_reel 19 = .ok (.iload_n 3, 1) := by decide +kernel
theorem dX9_reel_20 : decode cX9_reel 20 = .ok (.bipush 60, 2) := by decide +kernel
theorem dX9_reel_22 : decode cX9_reel 22 = .ok (.if_icmp .le 6, 3) := by decide +kernel
theorem dX9_reel_25 : decode cX9_reel 25 = .ok (.bipush (-2), 2) := by decide +kernel
theorem dX9_reel_27 : decode cX9_reel 27 = .ok (.ireturn, 1) := by decide +kernel
theorem dX9_reel_28 : decode cX9_reel 28 = .ok (.iload_n 3, 1) := by decide +kernel
theorem dX9_reel_29 : decode cX9_reel 29 = .ok (.ifCond .ge 9, 3) := by decide +kernel
theorem dX9_reel_32 : decode cX9_reel 32 = .ok (.aload_n 0, 1) := by decide +kernel
theorem dX9_reel_33 : decode cX9_reel 33 = .ok (.iconst 5, 1) := by decide +kernel
theorem dX9_reel_34 : decode cX9_reel 34 = .ok (.invokevirtual 106, 3) := by decide +kernel
theorem dX9_reel_37 : decode cX9_reel 37 = .ok (.ireturn, 1) := by decide +kernel
theorem dX9_reel_38 : decode cX9_reel 38 = .ok (.aload_n 0, 1) := by decide +kernel
theorem dX9_reel_39 : decode cX9_reel 39 = .ok (.getfield 7, 3) := by decide +kernel
theorem dX9_reel_42 : decode cX9_reel 42 = .ok (.iload_n 1, 1) := by decide +kernel
theorem dX9_reel_43 : decode cX9_reel 43 = .ok (.iconst 1, 1) := by decide +kernel
theorem dX9_reel_44 : decode cX9_reel 44 = .ok (.bastore, 1) := by decide +kernel
theorem dX9_reel_45 : decode cX9_reel 45 = .ok (.aload_n 0, 1) := by decide +kernel
theorem dX9_reel_46 : decode cX9_reel 46 = .ok (.getfield 13, 3) := by decide +kernel
theorem dX9_reel_49 : decode cX9_reel 49 = .ok (.iload_n 1, 1) := by decide +kernel
theorem dX9_reel_50 : decode cX9_reel 50 = .ok (.iload_n 2, 1) := by decide +kernel
theorem dX9_reel_51 : decode cX9_reel 51 = .ok (.iastore, 1) := by decide +kernel
theorem dX9_reel_52 : decode cX9_reel 52 = .ok (.aload_n 0, 1) := by decide +kernel
theorem dX9_reel_53 : decode cX9_reel 53 = .ok (.getfield 17, 3) := by decide +kernel
theorem dX9_reel_56 : decode cX9_reel 56 = .ok (.iload_n 1, 1) := by decide +kernel
theorem dX9_reel_57 : decode cX9_reel 57 = .ok (.iload_n 3, 1) := by decide +kernel
theorem dX9_reel_58 : decode cX9_reel 58 = .ok (.iastore, 1) := by decide +kernel
theorem dX9_reel_59 : decode cX9_reel 59 = .ok (.iconst 0, 1) := by decide +kernel
theorem dX9_reel_60 : decode cX9_reel 60 = .ok (.istore 4, 2) := by decide +kernel
theorem dX9_reel_62 : decode cX9_reel 62 = .ok (.iload 4, 2) := by decide +kernel
theorem dX9_reel_64 : decode cX9_reel 64 = .ok (.bipush 60, 2) := by decide +kernel
theorem dX9_reel_66 : decode cX9_reel 66 = .ok (.if_icmp .ge 22, 3) := by decide +kernel
theorem dX9_reel_69 : decode cX9_reel 69 = .ok (.aload_n 0, 1) := by decide +kernel
theorem dX9_reel_70 : decode cX9_reel 70 = .ok (.getfield 20, 3) := by decide +kernel
theorem dX9_reel_73 : decode cX9_reel 73 = .ok (.bipush 60, 2) := by decide +kernel
theorem dX9_reel_75 : decode cX9_reel 75 = .ok (.iload_n 1, 1) := by decide +kernel
theorem dX9_reel_76 : decode cX9_reel 76 = .ok (.imul, 1) := by decide +kernel
theorem dX9_reel_77 : decode cX9_reel 77 = .ok (.iload 4, 2) := by decide +kernel
theorem dX9_reel_79 : decode cX9_reel 79 = .ok (.iadd, 1) := by decide +kernel
theorem dX9_reel_80 : decode cX9_reel 80 = .ok (.lconst 0, 1) := by decide +kernel
theorem dX9_reel_81 : decode cX9_reel 81 = .ok (.lastore, 1) := by decide +kernel
theorem dX9_reel_82 : decode cX9_reel 82 = .ok (.iinc 4 1, 3) := by decide +kernel
theorem dX9_reel_85 : decode cX9_reel 85 = .ok (.goto (-23), 3) := by decide +kernel
theorem dX9_reel_88 : decode cX9_reel 88 = .ok (.iload_n 3, 1) := by decide +kernel
theorem dX9_reel_89 : decode cX9_reel 89 = .ok (.ireturn, 1) := by decide +kernel
theorem dX9_lose_0 : decode cX9_lose 0 = .ok (.iload_n 1, 1) := by decide +kernel
theorem dX9_lose_1 : decode cX9_lose 1 = .ok (.invokestatic 102, 3) := by decide +kernel
theorem dX9_lose_4 : decode cX9_lose 4 = .ok (.ifCond .ne 6, 3) := by decide +kernel
theorem dX9_lose_7 : decode cX9_lose 7 = .ok (.bipush (-2), 2) := by decide +kernel
theorem dX9_lose_9 : decode cX9_lose 9 = .ok (.ireturn, 1) := by decide +kernel
theorem dX9_lose_10 : decode cX9_lose 10 = .ok (.aload_n 0, 1) := by decide +kernel
theorem dX9_lose_11 : decode cX9_lose 11 = .ok (.getfield 7, 3) := by decide +kernel
theorem dX9_lose_14 : decode cX9_lose 14 = .ok (.iload_n 1, 1) := by decide +kernel
theorem dX9_lose_15 : decode cX9_lose 15 = .ok (.baload, 1) := by decide +kernel
theorem dX9_lose_16 : decode cX9_lose 16 = .ok (.ifCond .ne 9, 3) := by decide +kernel
theorem dX9_lose_19 : decode cX9_lose 19 = .ok (.aload_n 0, 1) := by decide +kernel
theorem dX9_lose_20 : decode cX9_lose 20 = .ok (.iconst 1, 1) := by decide +kernel
theorem dX9_lose_21 : decode cX9_lose 21 = .ok (.invokevirtual 106, 3) := by decide +kernel
theorem dX9_lose_24 : decode cX9_lose 24 = .ok (.ireturn, 1) := by decide +kernel
theorem dX9_lose_25 : decode cX9_lose 25 = .ok (.aload_n 0, 1) := by decide +kernel
theorem dX9_lose_26 : decode cX9_lose 26 = .ok (.getfield 7, 3) := by decide +kernel
theorem dX9_lose_29 : decode cX9_lose 29 = .ok (.iload_n 1, 1) := by decide +kernel
theorem dX9_lose_30 : decode cX9_lose 30 = .ok (.iconst 0, 1) := by decide +kernel
theorem dX9_lose_31 : decode cX9_lose 31 = .ok (.bastore, 1) := by decide +kernel
theorem dX9_lose_32 : decode cX9_lose 32 = .ok (.aload_n 0, 1) := by decide +kernel
theorem dX9_lose_33 : decode cX9_lose 33 = .ok (.getfield 17, 3) := by decide +kernel
theorem dX9_lose_36 : decode cX9_lose 36 = .ok (.iload_n 1, 1) := by decide +kernel
theorem dX9_lose_37 : decode cX9_lose 37 = .ok (.iaload, 1) := by decide +kernel
theorem dX9_lose_38 : decode cX9_lose 38 = .ok (.ireturn, 1) := by decide +kernel
theorem dX9_laid_0 : decode cX9_laid 0 = .ok (.iload_n 0, 1) := by decide +kernel
theorem dX9_laid_1 : decode cX9_laid 1 = .ok (.tableswitch 93 0 5 #[39, 44, 49, 93, 53, 73], 39) := by decide +kernel
theorem dX9_laid_40 : decode cX9_laid 40 = .ok (.lload_n 1, 1) := by decide +kernel
theorem dX9_laid_41 : decode cX9_laid 41 = .ok (.l2i, 1) := by decide +kernel
theorem dX9_laid_42 : decode cX9_laid 42 = .ok (.i2b, 1) := by decide +kernel
theorem dX9_laid_43 : decode cX9_laid 43 = .ok (.i2l, 1) := by decide +kernel
theorem dX9_laid_44 : decode cX9_laid 44 = .ok (.lreturn, 1) := by decide +kernel
theorem dX9_laid_45 : decode cX9_laid 45 = .ok (.lload_n 1, 1) := by decide +kernel
theorem dX9_laid_46 : decode cX9_laid 46 = .ok (.l2i, 1) := by decide +kernel
theorem dX9_laid_47 : decode cX9_laid 47 = .ok (.i2s, 1) := by decide +kernel
theorem dX9_laid_48 : decode cX9_laid 48 = .ok (.i2l, 1) := by decide +kernel
theorem dX9_laid_49 : decode cX9_laid 49 = .ok (.lreturn, 1) := by decide +kernel
theorem dX9_laid_50 : decode cX9_laid 50 = .ok (.lload_n 1, 1) := by decide +kernel
theorem dX9_laid_51 : decode cX9_laid 51 = .ok (.l2i, 1) := by decide +kernel
theorem dX9_laid_52 : decode cX9_laid 52 = .ok (.i2l, 1) := by decide +kernel
theorem dX9_laid_53 : decode cX9_laid 53 = .ok (.lreturn, 1) := by decide +kernel
theorem dX9_laid_54 : decode cX9_laid 54 = .ok (.lload_n 1, 1) := by decide +kernel
theorem dX9_laid_55 : decode cX9_laid 55 = .ok (.l2i, 1) := by decide +kernel
theorem dX9_laid_56 : decode cX9_laid 56 = .ok (.ldc 110, 2) := by decide +kernel
theorem dX9_laid_58 : decode cX9_laid 58 = .ok (.iand, 1) := by decide +kernel
theorem dX9_laid_59 : decode cX9_laid 59 = .ok (.ldc 111, 2) := by decide +kernel
theorem dX9_laid_61 : decode cX9_laid 61 = .ok (.if_icmp .le 9, 3) := by decide +kernel
theorem dX9_laid_64 : decode cX9_laid 64 = .ok (.ldc2_w 112, 3) := by decide +kernel
theorem dX9_laid_67 : decode cX9_laid 67 = .ok (.goto 6, 3) := by decide +kernel
theorem dX9_laid_70 : decode cX9_laid 70 = .ok (.lload_n 1, 1) := by decide +kernel
theorem dX9_laid_71 : decode cX9_laid 71 = .ok (.l2i, 1) := by decide +kernel
theorem dX9_laid_72 : decode cX9_laid 72 = .ok (.i2l, 1) := by decide +kernel
theorem dX9_laid_73 : decode cX9_laid 73 = .ok (.lreturn, 1) := by decide +kernel
theorem dX9_laid_74 : decode cX9_laid 74 = .ok (.lload_n 1, 1) := by decide +kernel
theorem dX9_laid_75 : decode cX9_laid 75 = .ok (.ldc2_w 114, 3) := by decide +kernel
theorem dX9_laid_78 : decode cX9_laid 78 = .ok (.land, 1) := by decide +kernel
theorem dX9_laid_79 : decode cX9_laid 79 = .ok (.ldc2_w 116, 3) := by decide +kernel
theorem dX9_laid_82 : decode cX9_laid 82 = .ok (.lcmp, 1) := by decide +kernel
theorem dX9_laid_83 : decode cX9_laid 83 = .ok (.ifCond .le 9, 3) := by decide +kernel
theorem dX9_laid_86 : decode cX9_laid 86 = .ok (.ldc2_w 118, 3) := by decide +kernel
theorem dX9_laid_89 : decode cX9_laid 89 = .ok (.goto 4, 3) := by decide +kernel
theorem dX9_laid_92 : decode cX9_laid 92 = .ok (.lload_n 1, 1) := by decide +kernel
theorem dX9_laid_93 : decode cX9_laid 93 = .ok (.lreturn, 1) := by decide +kernel
theorem dX9_laid_94 : decode cX9_laid 94 = .ok (.lload_n 1, 1) := by decide +kernel
theorem dX9_laid_95 : decode cX9_laid 95 = .ok (.lreturn, 1) := by decide +kernel
theorem dX9_lacks_0 : decode cX9_lacks 0 = .ok (.aload_n 0, 1) := by decide +kernel
theorem dX9_lacks_1 : decode cX9_lacks 1 = .ok (.getfield 7, 3) := by decide +kernel
theorem dX9_lacks_4 : decode cX9_lacks 4 = .ok (.iload_n 1, 1) := by decide +kernel
theorem dX9_lacks_5 : decode cX9_lacks 5 = .ok (.baload, 1) := by decide +kernel
theorem dX9_lacks_6 : decode cX9_lacks 6 = .ok (.ifCond .ne 7, 3) := by decide +kernel
theorem dX9_lacks_9 : decode cX9_lacks 9 = .ok (.iconst 1, 1) := by decide +kernel
theorem dX9_lacks_10 : decode cX9_lacks 10 = .ok (.goto 40, 3) := by decide +kernel
theorem dX9_lacks_13 : decode cX9_lacks 13 = .ok (.aload_n 0, 1) := by decide +kernel
theorem dX9_lacks_14 : decode cX9_lacks 14 = .ok (.getfield 13, 3) := by decide +kernel
theorem dX9_lacks_17 : decode cX9_lacks 17 = .ok (.iload_n 1, 1) := by decide +kernel
theorem dX9_lacks_18 : decode cX9_lacks 18 = .ok (.iaload, 1) := by decide +kernel
theorem dX9_lacks_19 : decode cX9_lacks 19 = .ok (.iload_n 2, 1) := by decide +kernel
theorem dX9_lacks_20 : decode cX9_lacks 20 = .ok (.if_icmp .eq 7, 3) := by decide +kernel
theorem dX9_lacks_23 : decode cX9_lacks 23 = .ok (.iconst 3, 1) := by decide +kernel
theorem dX9_lacks_24 : decode cX9_lacks 24 = .ok (.goto 26, 3) := by decide +kernel
theorem dX9_lacks_27 : decode cX9_lacks 27 = .ok (.iload_n 3, 1) := by decide +kernel
theorem dX9_lacks_28 : decode cX9_lacks 28 = .ok (.i2l, 1) := by decide +kernel
theorem dX9_lacks_29 : decode cX9_lacks 29 = .ok (.lconst 0, 1) := by decide +kernel
theorem dX9_lacks_30 : decode cX9_lacks 30 = .ok (.aload_n 0, 1) := by decide +kernel
theorem dX9_lacks_31 : decode cX9_lacks 31 = .ok (.getfield 17, 3) := by decide +kernel
theorem dX9_lacks_34 : decode cX9_lacks 34 = .ok (.iload_n 1, 1) := by decide +kernel
theorem dX9_lacks_35 : decode cX9_lacks 35 = .ok (.iaload, 1) := by decide +kernel
theorem dX9_lacks_36 : decode cX9_lacks 36 = .ok (.iconst 1, 1) := by decide +kernel
theorem dX9_lacks_37 : decode cX9_lacks 37 = .ok (.isub, 1) := by decide +kernel
theorem dX9_lacks_38 : decode cX9_lacks 38 = .ok (.i2l, 1) := by decide +kernel
theorem dX9_lacks_39 : decode cX9_lacks 39 = .ok (.invokestatic 98, 3) := by decide +kernel
theorem dX9_lacks_42 : decode cX9_lacks 42 = .ok (.ifCond .eq 7, 3) := by decide +kernel
theorem dX9_lacks_45 : decode cX9_lacks 45 = .ok (.iconst 0, 1) := by decide +kernel
theorem dX9_lacks_46 : decode cX9_lacks 46 = .ok (.goto 4, 3) := by decide +kernel
theorem dX9_lacks_49 : decode cX9_lacks 49 = .ok (.iconst 2, 1) := by decide +kernel
theorem dX9_lacks_50 : decode cX9_lacks 50 = .ok (.ireturn, 1) := by decide +kernel
theorem dX9_put_0 : decode cX9_put 0 = .ok (.iload_n 1, 1) := by decide +kernel
theorem dX9_put_1 : decode cX9_put 1 = .ok (.invokestatic 102, 3) := by decide +kernel
theorem dX9_put_4 : decode cX9_put 4 = .ok (.ifCond .eq 15, 3) := by decide +kernel
theorem dX9_put_7 : decode cX9_put 7 = .ok (.iload_n 2, 1) := by decide +kernel
theorem dX9_put_8 : decode cX9_put 8 = .ok (.i2l, 1) := by decide +kernel
theorem dX9_put_9 : decode cX9_put 9 = .ok (.lconst 0, 1) := by decide +kernel
theorem dX9_put_10 : decode cX9_put 10 = .ok (.ldc2_w 96, 3) := by decide +kernel
theorem dX9_put_13 : decode cX9_put 13 = .ok (.invokestatic 98, 3) := by decide +kernel
theorem dX9_put_16 : decode cX9_put 16 = .ok (.ifCond .ne 6, 3) := by decide +kernel
theorem dX9_put_19 : decode cX9_put 19 = .ok (.bipush (-2), 2) := by decide +kernel
theorem dX9_put_21 : decode cX9_put 21 = .ok (.ireturn, 1) := by decide +kernel
theorem dX9_put_22 : decode cX9_put 22 = .ok (.aload_n 0, 1) := by decide +kernel
theorem dX9_put_23 : decode cX9_put 23 = .ok (.iload_n 1, 1) := by decide +kernel
theorem dX9_put_24 : decode cX9_put 24 = .ok (.iload_n 2, 1) := by decide +kernel
theorem dX9_put_25 : decode cX9_put 25 = .ok (.iload_n 3, 1) := by decide +kernel
theorem dX9_put_26 : decode cX9_put 26 = .ok (.invokevirtual 120, 3) := by decide +kernel
theorem dX9_put_29 : decode cX9_put 29 = .ok (.istore 6, 2) := by decide +kernel
theorem dX9_put_31 : decode cX9_put 31 = .ok (.iload 6, 2) := by decide +kernel
theorem dX9_put_33 : decode cX9_put 33 = .ok (.ifCond .le 10, 3) := by decide +kernel
theorem dX9_put_36 : decode cX9_put 36 = .ok (.aload_n 0, 1) := by decide +kernel
theorem dX9_put_37 : decode cX9_put 37 = .ok (.iload 6, 2) := by decide +kernel
theorem dX9_put_39 : decode cX9_put 39 = .ok (.invokevirtual 106, 3) := by decide +kernel
theorem dX9_put_42 : decode cX9_put 42 = .ok (.ireturn, 1) := by decide +kernel
theorem dX9_put_43 : decode cX9_put 43 = .ok (.aload_n 0, 1) := by decide +kernel
theorem dX9_put_44 : decode cX9_put 44 = .ok (.getfield 20, 3) := by decide +kernel
theorem dX9_put_47 : decode cX9_put 47 = .ok (.bipush 60, 2) := by decide +kernel
theorem dX9_put_49 : decode cX9_put 49 = .ok (.iload_n 1, 1) := by decide +kernel
theorem dX9_put_50 : decode cX9_put 50 = .ok (.imul, 1) := by decide +kernel
theorem dX9_put_51 : decode cX9_put 51 = .ok (.iload_n 3, 1) := by decide +kernel
theorem dX9_put_52 : decode cX9_put 52 = .ok (.iadd, 1) := by decide +kernel
theorem dX9_put_53 : decode cX9_put 53 = .ok (.iload_n 2, 1) := by decide +kernel
theorem dX9_put_54 : decode cX9_put 54 = .ok (.lload 4, 2) := by decide +kernel
theorem dX9_put_56 : decode cX9_put 56 = .ok (.invokestatic 124, 3) := by decide +kernel
theorem dX9_put_59 : decode cX9_put 59 = .ok (.lastore, 1) := by decide +kernel
theorem dX9_put_60 : decode cX9_put 60 = .ok (.iconst 1, 1) := by decide +kernel
theorem dX9_put_61 : decode cX9_put 61 = .ok (.ireturn, 1) := by decide +kernel
theorem dX9_get_0 : decode cX9_get 0 = .ok (.iload_n 1, 1) := by decide +kernel
theorem dX9_get_1 : decode cX9_get 1 = .ok (.invokestatic 102, 3) := by decide +kernel
theorem dX9_get_4 : decode cX9_get 4 = .ok (.ifCond .eq 15, 3) := by decide +kernel
theorem dX9_get_7 : decode cX9_get 7 = .ok (.iload_n 2, 1) := by decide +kernel
theorem dX9_get_8 : decode cX9_get 8 = .ok (.i2l, 1) := by decide +kernel
theorem dX9_get_9 : decode cX9_get 9 = .ok (.lconst 0, 1) := by decide +kernel
theorem dX9_get_10 : decode cX9_get 10 = .ok (.ldc2_w 96, 3) := by decide +kernel
theorem dX9_get_13 : decode cX9_get 13 = .ok (.invokestatic 98, 3) := by decide +kernel
theorem dX9_get_16 : decode cX9_get 16 = .ok (.ifCond .ne 5, 3) := by decide +kernel
theorem dX9_get_19 : decode cX9_get 19 = .ok (.lconst 0, 1) := by decide +kernel
theorem dX9_get_20 : decode cX9_get 20 = .ok (.lreturn, 1) := by decide +kernel
theorem dX9_get_21 : decode cX9_get 21 = .ok (.aload_n 0, 1) := by decide +kernel
theorem dX9_get_22 : decode cX9_get 22 = .ok (.iload_n 1, 1) := by decide +kernel
theorem dX9_get_23 : decode cX9_get 23 = .ok (.iload_n 2, 1) := by decide +kernel
theorem dX9_get_24 : decode cX9_get 24 = .ok (.iload_n 3, 1) := by decide +kernel
theorem dX9_get_25 : decode cX9_get 25 = .ok (.invokevirtual 120, 3) := by decide +kernel
theorem dX9_get_28 : decode cX9_get 28 = .ok (.istore 4, 2) := by decide +kernel
theorem dX9_get_30 : decode cX9_get 30 = .ok (.iload 4, 2) := by decide +kernel
theorem dX9_get_32 : decode cX9_get 32 = .ok (.ifCond .le 13, 3) := by decide +kernel
theorem dX9_get_35 : decode cX9_get 35 = .ok (.aload_n 0, 1) := by decide +kernel
theorem dX9_get_36 : decode cX9_get 36 = .ok (.iload 4, 2) := by decide +kernel
theorem dX9_get_38 : decode cX9_get 38 = .ok (.invokevirtual 106, 3) := by decide +kernel
theorem dX9_get_41 : decode cX9_get 41 = .ok (.istore 5, 2) := by decide +kernel
theorem dX9_get_43 : decode cX9_get 43 = .ok (.lconst 0, 1) := by decide +kernel
theorem dX9_get_44 : decode cX9_get 44 = .ok (.lreturn, 1) := by decide +kernel
theorem dX9_get_45 : decode cX9_get 45 = .ok (.aload_n 0, 1) := by decide +kernel
theorem dX9_get_46 : decode cX9_get 46 = .ok (.getfield 20, 3) := by decide +kernel
theorem dX9_get_49 : decode cX9_get 49 = .ok (.bipush 60, 2) := by decide +kernel
theorem dX9_get_51 : decode cX9_get 51 = .ok (.iload_n 1, 1) := by decide +kernel
theorem dX9_get_52 : decode cX9_get 52 = .ok (.imul, 1) := by decide +kernel
theorem dX9_get_53 : decode cX9_get 53 = .ok (.iload_n 3, 1) := by decide +kernel
theorem dX9_get_54 : decode cX9_get 54 = .ok (.iadd, 1) := by decide +kernel
theorem dX9_get_55 : decode cX9_get 55 = .ok (.laload, 1) := by decide +kernel
theorem dX9_get_56 : decode cX9_get 56 = .ok (.lreturn, 1) := by decide +kernel
theorem dX9_copy_0 : decode cX9_copy 0 = .ok (.iload_n 1, 1) := by decide +kernel
theorem dX9_copy_1 : decode cX9_copy 1 = .ok (.invokestatic 102, 3) := by decide +kernel
theorem dX9_copy_4 : decode cX9_copy 4 = .ok (.ifCond .eq 10, 3) := by decide +kernel
theorem dX9_copy_7 : decode cX9_copy 7 = .ok (.iload_n 3, 1) := by decide +kernel
theorem dX9_copy_8 : decode cX9_copy 8 = .ok (.invokestatic 102, 3) := by decide +kernel
theorem dX9_copy_11 : decode cX9_copy 11 = .ok (.ifCond .ne 6, 3) := by decide +kernel
theorem dX9_copy_14 : decode cX9_copy 14 = .ok (.bipush (-2), 2) := by decide +kernel
theorem dX9_copy_16 : decode cX9_copy 16 = .ok (.ireturn, 1) := by decide +kernel
theorem dX9_copy_17 : decode cX9_copy 17 = .ok (.aload_n 0, 1) := by decide +kernel
theorem dX9_copy_18 : decode cX9_copy 18 = .ok (.getfield 7, 3) := by decide +kernel
theorem dX9_copy_21 : decode cX9_copy 21 = .ok (.iload_n 1, 1) := by decide +kernel
theorem dX9_copy_22 : decode cX9_copy 22 = .ok (.baload, 1) := by decide +kernel
theorem dX9_copy_23 : decode cX9_copy 23 = .ok (.ifCond .eq 12, 3) := by decide +kernel
theorem dX9_copy_26 : decode cX9_copy 26 = .ok (.aload_n 0, 1) := by decide +kernel
theorem dX9_copy_27 : decode cX9_copy 27 = .ok (.getfield 7, 3) := by decide +kernel
theorem dX9_copy_30 : decode cX9_copy 30 = .ok (.iload_n 3, 1) := by decide +kernel
theorem dX9_copy_31 : decode cX9_copy 31 = .ok (.baload, 1) := by decide +kernel
theorem dX9_copy_32 : decode cX9_copy 32 = .ok (.ifCond .ne 9, 3) := by decide +kernel
theorem dX9_copy_35 : decode cX9_copy 35 = .ok (.aload_n 0, 1) := by decide +kernel
theorem dX9_copy_36 : decode cX9_copy 36 = .ok (.iconst 1, 1) := by decide +kernel
theorem dX9_copy_37 : decode cX9_copy 37 = .ok (.invokevirtual 106, 3) := by decide +kernel
theorem dX9_copy_40 : decode cX9_copy 40 = .ok (.ireturn, 1) := by decide +kernel
theorem dX9_copy_41 : decode cX9_copy 41 = .ok (.aload_n 0, 1) := by decide +kernel
theorem dX9_copy_42 : decode cX9_copy 42 = .ok (.getfield 13, 3) := by decide +kernel
theorem dX9_copy_45 : decode cX9_copy 45 = .ok (.iload_n 1, 1) := by decide +kernel
theorem dX9_copy_46 : decode cX9_copy 46 = .ok (.iaload, 1) := by decide +kernel
theorem dX9_copy_47 : decode cX9_copy 47 = .ok (.aload_n 0, 1) := by decide +kernel
theorem dX9_copy_48 : decode cX9_copy 48 = .ok (.getfield 13, 3) := by decide +kernel
theorem dX9_copy_51 : decode cX9_copy 51 = .ok (.iload_n 3, 1) := by decide +kernel
theorem dX9_copy_52 : decode cX9_copy 52 = .ok (.iaload, 1) := by decide +kernel
theorem dX9_copy_53 : decode cX9_copy 53 = .ok (.if_icmp .eq 9, 3) := by decide +kernel
theorem dX9_copy_56 : decode cX9_copy 56 = .ok (.aload_n 0, 1) := by decide +kernel
theorem dX9_copy_57 : decode cX9_copy 57 = .ok (.iconst 4, 1) := by decide +kernel
theorem dX9_copy_58 : decode cX9_copy 58 = .ok (.invokevirtual 106, 3) := by decide +kernel
theorem dX9_copy_61 : decode cX9_copy 61 = .ok (.ireturn, 1) := by decide +kernel
theorem dX9_copy_62 : decode cX9_copy 62 = .ok (.iload_n 2, 1) := by decide +kernel
theorem dX9_copy_63 : decode cX9_copy 63 = .ok (.ifCond .lt 48, 3) := by decide +kernel
theorem dX9_copy_66 : decode cX9_copy 66 = .ok (.iload 4, 2) := by decide +kernel
theorem dX9_copy_68 : decode cX9_copy 68 = .ok (.ifCond .lt 43, 3) := by decide +kernel
theorem dX9_copy_71 : decode cX9_copy 71 = .ok (.iload 5, 2) := by decide +kernel
theorem dX9_copy_73 : decode cX9_copy 73 = .ok (.ifCond .lt 38, 3) := by decide +kernel
theorem dX9_copy_76 : decode cX9_copy 76 = .ok (.iload_n 2, 1) := by decide +kernel
theorem dX9_copy_77 : decode cX9_copy 77 = .ok (.i2l, 1) := by decide +kernel
theorem dX9_copy_78 : decode cX9_copy 78 = .ok (.iload 5, 2) := by decide +kernel
theorem dX9_copy_80 : decode cX9_copy 80 = .ok (.i2l, 1) := by decide +kernel
theorem dX9_copy_81 : decode cX9_copy 81 = .ok (.ladd, 1) := by decide +kernel
theorem dX9_copy_82 : decode cX9_copy 82 = .ok (.aload_n 0, 1) := by decide +kernel
theorem dX9_copy_83 : decode cX9_copy 83 = .ok (.getfield 17, 3) := by decide +kernel
theorem dX9_copy_86 : decode cX9_copy 86 = .ok (.iload_n 1, 1) := by decide +kernel
theorem dX9_copy_87 : decode cX9_copy 87 = .ok (.iaload, 1) := by decide +kernel
theorem dX9_copy_88 : decode cX9_copy 88 = .ok (.i2l, 1) := by decide +kernel
theorem dX9_copy_89 : decode cX9_copy 89 = .ok (.lcmp, 1) := by decide +kernel
theorem dX9_copy_90 : decode cX9_copy 90 = .ok (.ifCond .gt 21, 3) := by decide +kernel
theorem dX9_copy_93 : decode cX9_copy 93 = .ok (.iload 4, 2) := by decide +kernel
theorem dX9_copy_95 : decode cX9_copy 95 = .ok (.i2l, 1) := by decide +kernel
theorem dX9_copy_96 : decode cX9_copy 96 = .ok (.iload 5, 2) := by decide +kernel
theorem dX9_copy_98 : decode cX9_copy 98 = .ok (.i2l, 1) := by decide +kernel
theorem dX9_copy_99 : decode cX9_copy 99 = .ok (.ladd, 1) := by decide +kernel
theorem dX9_copy_100 : decode cX9_copy 100 = .ok (.aload_n 0, 1) := by decide +kernel
theorem dX9_copy_101 : decode cX9_copy 101 = .ok (.getfield 17, 3) := by decide +kernel
theorem dX9_copy_104 : decode cX9_copy 104 = .ok (.iload_n 3, 1) := by decide +kernel
theorem dX9_copy_105 : decode cX9_copy 105 = .ok (.iaload, 1) := by decide +kernel
theorem dX9_copy_106 : decode cX9_copy 106 = .ok (.i2l, 1) := by decide +kernel
theorem dX9_copy_107 : decode cX9_copy 107 = .ok (.lcmp, 1) := by decide +kernel
theorem dX9_copy_108 : decode cX9_copy 108 = .ok (.ifCond .le 9, 3) := by decide +kernel
theorem dX9_copy_111 : decode cX9_copy 111 = .ok (.aload_n 0, 1) := by decide +kernel
theorem dX9_copy_112 : decode cX9_copy 112 = .ok (.iconst 2, 1) := by decide +kernel
theorem dX9_copy_113 : decode cX9_copy 113 = .ok (.invokevirtual 106, 3) := by decide +kernel
theorem dX9_copy_116 : decode cX9_copy 116 = .ok (.ireturn, 1) := by decide +kernel
theorem dX9_copy_117 : decode cX9_copy 117 = .ok (.iconst 0, 1) := by decide +kernel
theorem dX9_copy_118 : decode cX9_copy 118 = .ok (.istore 6, 2) := by decide +kernel
theorem dX9_copy_120 : decode cX9_copy 120 = .ok (.iload 6, 2) := by decide +kernel
theorem dX9_copy_122 : decode cX9_copy 122 = .ok (.iload 5, 2) := by decide +kernel
theorem dX9_copy_124 : decode cX9_copy 124 = .ok (.if_icmp .ge 30, 3) := by decide +kernel
theorem dX9_copy_127 : decode cX9_copy 127 = .ok (.aload_n 0, 1) := by decide +kernel
theorem dX9_copy_128 : decode cX9_copy 128 = .ok (.getfield 24, 3) := by decide +kernel
theorem dX9_copy_131 : decode cX9_copy 131 = .ok (.iload 6, 2) := by decide +kernel
theorem dX9_copy_133 : decode cX9_copy 133 = .ok (.aload_n 0, 1) := by decide +kernel
theorem dX9_copy_134 : decode cX9_copy 134 = .ok (.getfield 20, 3) := by decide +kernel
theorem dX9_copy_137 : decode cX9_copy 137 = .ok (.bipush 60, 2) := by decide +kernel
theorem dX9_copy_139 : decode cX9_copy 139 = .ok (.iload_n 1, 1) := by decide +kernel
theorem dX9_copy_140 : decode cX9_copy 140 = .ok (.imul, 1) := by decide +kernel
theorem dX9_copy_141 : decode cX9_copy 141 = .ok (.iload_n 2, 1) := by decide +kernel
theorem dX9_copy_142 : decode cX9_copy 142 = .ok (.iadd, 1) := by decide +kernel
theorem dX9_copy_143 : decode cX9_copy 143 = .ok (.iload 6, 2) := by decide +kernel
theorem dX9_copy_145 : decode cX9_copy 145 = .ok (.iadd, 1) := by decide +kernel
theorem dX9_copy_146 : decode cX9_copy 146 = .ok (.laload, 1) := by decide +kernel
theorem dX9_copy_147 : decode cX9_copy 147 = .ok (.lastore, 1) := by decide +kernel
theorem dX9_copy_148 : decode cX9_copy 148 = .ok (.iinc 6 1, 3) := by decide +kernel
theorem dX9_copy_151 : decode cX9_copy 151 = .ok (.goto (-31), 3) := by decide +kernel
theorem dX9_copy_154 : decode cX9_copy 154 = .ok (.iconst 0, 1) := by decide +kernel
theorem dX9_copy_155 : decode cX9_copy 155 = .ok (.istore 6, 2) := by decide +kernel
theorem dX9_copy_157 : decode cX9_copy 157 = .ok (.iload 6, 2) := by decide +kernel
theorem dX9_copy_159 : decode cX9_copy 159 = .ok (.iload 5, 2) := by decide +kernel
theorem dX9_copy_161 : decode cX9_copy 161 = .ok (.if_icmp .ge 31, 3) := by decide +kernel
theorem dX9_copy_164 : decode cX9_copy 164 = .ok (.aload_n 0, 1) := by decide +kernel
theorem dX9_copy_165 : decode cX9_copy 165 = .ok (.getfield 20, 3) := by decide +kernel
theorem dX9_copy_168 : decode cX9_copy 168 = .ok (.bipush 60, 2) := by decide +kernel
theorem dX9_copy_170 : decode cX9_copy 170 = .ok (.iload_n 3, 1) := by decide +kernel
theorem dX9_copy_171 : decode cX9_copy 171 = .ok (.imul, 1) := by decide +kernel
theorem dX9_copy_172 : decode cX9_copy 172 = .ok (.iload 4, 2) := by decide +kernel
theorem dX9_copy_174 : decode cX9_copy 174 = .ok (.iadd, 1) := by decide +kernel
theorem dX9_copy_175 : decode cX9_copy 175 = .ok (.iload 6, 2) := by decide +kernel
theorem dX9_copy_177 : decode cX9_copy 177 = .ok (.iadd, 1) := by decide +kernel
theorem dX9_copy_178 : decode cX9_copy 178 = .ok (.aload_n 0, 1) := by decide +kernel
theorem dX9_copy_179 : decode cX9_copy 179 = .ok (.getfield 24, 3) := by decide +kernel
theorem dX9_copy_182 : decode cX9_copy 182 = .ok (.iload 6, 2) := by decide +kernel
theorem dX9_copy_184 : decode cX9_copy 184 = .ok (.laload, 1) := by decide +kernel
theorem dX9_copy_185 : decode cX9_copy 185 = .ok (.lastore, 1) := by decide +kernel
theorem dX9_copy_186 : decode cX9_copy 186 = .ok (.iinc 6 1, 3) := by decide +kernel
theorem dX9_copy_189 : decode cX9_copy 189 = .ok (.goto (-32), 3) := by decide +kernel
theorem dX9_copy_192 : decode cX9_copy 192 = .ok (.iconst 1, 1) := by decide +kernel
theorem dX9_copy_193 : decode cX9_copy 193 = .ok (.ireturn, 1) := by decide +kernel
theorem dX9_sampleOf_0 : decode cX9_sampleOf 0 = .ok (.aload_n 0, 1) := by decide +kernel
theorem dX9_sampleOf_1 : decode cX9_sampleOf 1 = .ok (.getfield 20, 3) := by decide +kernel
theorem dX9_sampleOf_4 : decode cX9_sampleOf 4 = .ok (.iload_n 1, 1) := by decide +kernel
theorem dX9_sampleOf_5 : decode cX9_sampleOf 5 = .ok (.laload, 1) := by decide +kernel
theorem dX9_sampleOf_6 : decode cX9_sampleOf 6 = .ok (.lstore_n 3, 1) := by decide +kernel
theorem dX9_sampleOf_7 : decode cX9_sampleOf 7 = .ok (.lload_n 3, 1) := by decide +kernel
theorem dX9_sampleOf_8 : decode cX9_sampleOf 8 = .ok (.lstore 5, 2) := by decide +kernel
theorem dX9_sampleOf_10 : decode cX9_sampleOf 10 = .ok (.iload_n 2, 1) := by decide +kernel
theorem dX9_sampleOf_11 : decode cX9_sampleOf 11 = .ok (.iconst 4, 1) := by decide +kernel
theorem dX9_sampleOf_12 : decode cX9_sampleOf 12 = .ok (.if_icmp .ne 44, 3) := by decide +kernel
