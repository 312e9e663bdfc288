theorem dX7_keeps_37 : decode cX7_keeps 37 = .ok (.getfield 115, 3) := by decide +kernel
theorem dX7_keeps_40 : decode cX7_keeps 40 = .ok (.ishl, 1) := by decide +kernel
theorem dX7_keeps_41 : decode cX7_keeps 41 = .ok (.if_icmp .ge 38, 3) := by decide +kernel
theorem dX7_keeps_44 : decode cX7_keeps 44 = .ok (.aload_n 0, 1) := by decide +kernel
theorem dX7_keeps_45 : decode cX7_keeps 45 = .ok (.iload 4, 2) := by decide +kernel
theorem dX7_keeps_47 : decode cX7_keeps 47 = .ok (.invokevirtual 239, 3) := by decide +kernel
theorem dX7_keeps_50 : decode cX7_keeps 50 = .ok (.istore 5, 2) := by decide +kernel
theorem dX7_keeps_52 : decode cX7_keeps 52 = .ok (.iload 5, 2) := by decide +kernel
theorem dX7_keeps_54 : decode cX7_keeps 54 = .ok (.iload_n 3, 1) := by decide +kernel
theorem dX7_keeps_55 : decode cX7_keeps 55 = .ok (.if_icmp .le 18, 3) := by decide +kernel
theorem dX7_keeps_58 : decode cX7_keeps 58 = .ok (.aload_n 0, 1) := by decide +kernel
theorem dX7_keeps_59 : decode cX7_keeps 59 = .ok (.iload 4, 2) := by decide +kernel
theorem dX7_keeps_61 : decode cX7_keeps 61 = .ok (.invokevirtual 242, 3) := by decide +kernel
theorem dX7_keeps_64 : decode cX7_keeps 64 = .ok (.ifCond .eq 9, 3) := by decide +kernel
theorem dX7_keeps_67 : decode cX7_keeps 67 = .ok (.iload 4, 2) := by decide +kernel
theorem dX7_keeps_69 : decode cX7_keeps 69 = .ok (.istore_n 2, 1) := by decide +kernel
theorem dX7_keeps_70 : decode cX7_keeps 70 = .ok (.iload 5, 2) := by decide +kernel
theorem dX7_keeps_72 : decode cX7_keeps 72 = .ok (.istore_n 3, 1) := by decide +kernel
theorem dX7_keeps_73 : decode cX7_keeps 73 = .ok (.iinc 4 1, 3) := by decide +kernel
theorem dX7_keeps_76 : decode cX7_keeps 76 = .ok (.goto (-46), 3) := by decide +kernel
theorem dX7_keeps_79 : decode cX7_keeps 79 = .ok (.iload_n 1, 1) := by decide +kernel
theorem dX7_keeps_80 : decode cX7_keeps 80 = .ok (.ifCond .ne 7, 3) := by decide +kernel
theorem dX7_keeps_83 : decode cX7_keeps 83 = .ok (.iload_n 2, 1) := by decide +kernel
theorem dX7_keeps_84 : decode cX7_keeps 84 = .ok (.goto 4, 3) := by decide +kernel
theorem dX7_keeps_87 : decode cX7_keeps 87 = .ok (.iload_n 3, 1) := by decide +kernel
theorem dX7_keeps_88 : decode cX7_keeps 88 = .ok (.ireturn, 1) := by decide +kernel
theorem dX7_blend_0 : decode cX7_blend 0 = .ok (.aload_n 0, 1) := by decide +kernel
theorem dX7_blend_1 : decode cX7_blend 1 = .ok (.iload_n 1, 1) := by decide +kernel
theorem dX7_blend_2 : decode cX7_blend 2 = .ok (.invokevirtual 132, 3) := by decide +kernel
theorem dX7_blend_5 : decode cX7_blend 5 = .ok (.ifCond .eq 16, 3) := by decide +kernel
theorem dX7_blend_8 : decode cX7_blend 8 = .ok (.aload_n 0, 1) := by decide +kernel
theorem dX7_blend_9 : decode cX7_blend 9 = .ok (.iload_n 2, 1) := by decide +kernel
theorem dX7_blend_10 : decode cX7_blend 10 = .ok (.invokevirtual 132, 3) := by decide +kernel
theorem dX7_blend_13 : decode cX7_blend 13 = .ok (.ifCond .eq 8, 3) := by decide +kernel
theorem dX7_blend_16 : decode cX7_blend 16 = .ok (.iload_n 1, 1) := by decide +kernel
theorem dX7_blend_17 : decode cX7_blend 17 = .ok (.iload_n 2, 1) := by decide +kernel
theorem dX7_blend_18 : decode cX7_blend 18 = .ok (.if_icmp .ne 9, 3) := by decide +kernel
theorem dX7_blend_21 : decode cX7_blend 21 = .ok (.aload_n 0, 1) := by decide +kernel
theorem dX7_blend_22 : decode cX7_blend 22 = .ok (.iconst 1, 1) := by decide +kernel
theorem dX7_blend_23 : decode cX7_blend 23 = .ok (.invokevirtual 62, 3) := by decide +kernel
theorem dX7_blend_26 : decode cX7_blend 26 = .ok (.ireturn, 1) := by decide +kernel
theorem dX7_blend_27 : decode cX7_blend 27 = .ok (.aload_n 0, 1) := by decide +kernel
theorem dX7_blend_28 : decode cX7_blend 28 = .ok (.getfield 10, 3) := by decide +kernel
theorem dX7_blend_31 : decode cX7_blend 31 = .ok (.getfield 122, 3) := by decide +kernel
theorem dX7_blend_34 : decode cX7_blend 34 = .ok (.iload_n 1, 1) := by decide +kernel
theorem dX7_blend_35 : decode cX7_blend 35 = .ok (.aaload, 1) := by decide +kernel
theorem dX7_blend_36 : decode cX7_blend 36 = .ok (.invokevirtual 158, 3) := by decide +kernel
theorem dX7_blend_39 : decode cX7_blend 39 = .ok (.istore_n 3, 1) := by decide +kernel
theorem dX7_blend_40 : decode cX7_blend 40 = .ok (.aload_n 0, 1) := by decide +kernel
theorem dX7_blend_41 : decode cX7_blend 41 = .ok (.getfield 10, 3) := by decide +kernel
theorem dX7_blend_44 : decode cX7_blend 44 = .ok (.getfield 122, 3) := by decide +kernel
theorem dX7_blend_47 : decode cX7_blend 47 = .ok (.iload_n 2, 1) := by decide +kernel
theorem dX7_blend_48 : decode cX7_blend 48 = .ok (.aaload, 1) := by decide +kernel
theorem dX7_blend_49 : decode cX7_blend 49 = .ok (.invokevirtual 158, 3) := by decide +kernel
theorem dX7_blend_52 : decode cX7_blend 52 = .ok (.istore 4, 2) := by decide +kernel
theorem dX7_blend_54 : decode cX7_blend 54 = .ok (.iload_n 3, 1) := by decide +kernel
theorem dX7_blend_55 : decode cX7_blend 55 = .ok (.iconst 1, 1) := by decide +kernel
theorem dX7_blend_56 : decode cX7_blend 56 = .ok (.ishl, 1) := by decide +kernel
theorem dX7_blend_57 : decode cX7_blend 57 = .ok (.iload 4, 2) := by decide +kernel
theorem dX7_blend_59 : decode cX7_blend 59 = .ok (.iand, 1) := by decide +kernel
theorem dX7_blend_60 : decode cX7_blend 60 = .ok (.ifCond .ne 12, 3) := by decide +kernel
theorem dX7_blend_63 : decode cX7_blend 63 = .ok (.iload 4, 2) := by decide +kernel
theorem dX7_blend_65 : decode cX7_blend 65 = .ok (.iconst 1, 1) := by decide +kernel
theorem dX7_blend_66 : decode cX7_blend 66 = .ok (.ishl, 1) := by decide +kernel
theorem dX7_blend_67 : decode cX7_blend 67 = .ok (.iload_n 3, 1) := by decide +kernel
theorem dX7_blend_68 : decode cX7_blend 68 = .ok (.iand, 1) := by decide +kernel
theorem dX7_blend_69 : decode cX7_blend 69 = .ok (.ifCond .eq 7, 3) := by decide +kernel
theorem dX7_blend_72 : decode cX7_blend 72 = .ok (.iconst 1, 1) := by decide +kernel
theorem dX7_blend_73 : decode cX7_blend 73 = .ok (.goto 4, 3) := by decide +kernel
theorem dX7_blend_76 : decode cX7_blend 76 = .ok (.iconst 0, 1) := by decide +kernel
theorem dX7_blend_77 : decode cX7_blend 77 = .ok (.istore 5, 2) := by decide +kernel
theorem dX7_blend_79 : decode cX7_blend 79 = .ok (.iload_n 3, 1) := by decide +kernel
theorem dX7_blend_80 : decode cX7_blend 80 = .ok (.iload 4, 2) := by decide +kernel
theorem dX7_blend_82 : decode cX7_blend 82 = .ok (.iand, 1) := by decide +kernel
theorem dX7_blend_83 : decode cX7_blend 83 = .ok (.ifCond .ne 8, 3) := by decide +kernel
theorem dX7_blend_86 : decode cX7_blend 86 = .ok (.iload 5, 2) := by decide +kernel
theorem dX7_blend_88 : decode cX7_blend 88 = .ok (.ifCond .ne 9, 3) := by decide +kernel
theorem dX7_blend_91 : decode cX7_blend 91 = .ok (.aload_n 0, 1) := by decide +kernel
theorem dX7_blend_92 : decode cX7_blend 92 = .ok (.iconst 3, 1) := by decide +kernel
theorem dX7_blend_93 : decode cX7_blend 93 = .ok (.invokevirtual 62, 3) := by decide +kernel
theorem dX7_blend_96 : decode cX7_blend 96 = .ok (.ireturn, 1) := by decide +kernel
theorem dX7_blend_97 : decode cX7_blend 97 = .ok (.iload_n 3, 1) := by decide +kernel
theorem dX7_blend_98 : decode cX7_blend 98 = .ok (.iload 4, 2) := by decide +kernel
theorem dX7_blend_100 : decode cX7_blend 100 = .ok (.ior, 1) := by decide +kernel
theorem dX7_blend_101 : decode cX7_blend 101 = .ok (.ireturn, 1) := by decide +kernel
theorem dX7_thief_0 : decode cX7_thief 0 = .ok (.iload_n 1, 1) := by decide +kernel
theorem dX7_thief_1 : decode cX7_thief 1 = .ok (.invokestatic 112, 3) := by decide +kernel
theorem dX7_thief_4 : decode cX7_thief 4 = .ok (.ifCond .ne 9, 3) := by decide +kernel
theorem dX7_thief_7 : decode cX7_thief 7 = .ok (.aload_n 0, 1) := by decide +kernel
theorem dX7_thief_8 : decode cX7_thief 8 = .ok (.iconst 1, 1) := by decide +kernel
theorem dX7_thief_9 : decode cX7_thief 9 = .ok (.invokevirtual 62, 3) := by decide +kernel
theorem dX7_thief_12 : decode cX7_thief 12 = .ok (.ireturn, 1) := by decide +kernel
theorem dX7_thief_13 : decode cX7_thief 13 = .ok (.aload_n 0, 1) := by decide +kernel
theorem dX7_thief_14 : decode cX7_thief 14 = .ok (.getfield 10, 3) := by decide +kernel
theorem dX7_thief_17 : decode cX7_thief 17 = .ok (.getfield 66, 3) := by decide +kernel
theorem dX7_thief_20 : decode cX7_thief 20 = .ok (.iconst 0, 1) := by decide +kernel
theorem dX7_thief_21 : decode cX7_thief 21 = .ok (.invokevirtual 78, 3) := by decide +kernel
theorem dX7_thief_24 : decode cX7_thief 24 = .ok (.iload_n 1, 1) := by decide +kernel
theorem dX7_thief_25 : decode cX7_thief 25 = .ok (.iconst (-1), 1) := by decide +kernel
theorem dX7_thief_26 : decode cX7_thief 26 = .ok (.ixor, 1) := by decide +kernel
theorem dX7_thief_27 : decode cX7_thief 27 = .ok (.iand, 1) := by decide +kernel
theorem dX7_thief_28 : decode cX7_thief 28 = .ok (.istore_n 2, 1) := by decide +kernel
theorem dX7_thief_29 : decode cX7_thief 29 = .ok (.iconst 0, 1) := by decide +kernel
theorem dX7_thief_30 : decode cX7_thief 30 = .ok (.istore_n 3, 1) := by decide +kernel
theorem dX7_thief_31 : decode cX7_thief 31 = .ok (.iconst 0, 1) := by decide +kernel
theorem dX7_thief_32 : decode cX7_thief 32 = .ok (.istore 4, 2) := by decide +kernel
theorem dX7_thief_34 : decode cX7_thief 34 = .ok (.iload 4, 2) := by decide +kernel
theorem dX7_thief_36 : decode cX7_thief 36 = .ok (.bipush 20, 2) := by decide +kernel
theorem dX7_thief_38 : decode cX7_thief 38 = .ok (.if_icmp .ge 66, 3) := by decide +kernel
theorem dX7_thief_41 : decode cX7_thief 41 = .ok (.aload_n 0, 1) := by decide +kernel
theorem dX7_thief_42 : decode cX7_thief 42 = .ok (.getfield 10, 3) := by decide +kernel
theorem dX7_thief_45 : decode cX7_thief 45 = .ok (.getfield 66, 3) := by decide +kernel
theorem dX7_thief_48 : decode cX7_thief 48 = .ok (.iload 4, 2) := by decide +kernel
theorem dX7_thief_50 : decode cX7_thief 50 = .ok (.iconst 0, 1) := by decide +kernel
theorem dX7_thief_51 : decode cX7_thief 51 = .ok (.iload_n 2, 1) := by decide +kernel
theorem dX7_thief_52 : decode cX7_thief 52 = .ok (.invokevirtual 81, 3) := by decide +kernel
theorem dX7_thief_55 : decode cX7_thief 55 = .ok (.istore 5, 2) := by decide +kernel
theorem dX7_thief_57 : decode cX7_thief 57 = .ok (.aload_n 0, 1) := by decide +kernel
theorem dX7_thief_58 : decode cX7_thief 58 = .ok (.getfield 10, 3) := by decide +kernel
theorem dX7_thief_61 : decode cX7_thief 61 = .ok (.getfield 66, 3) := by decide +kernel
theorem dX7_thief_64 : decode cX7_thief 64 = .ok (.iload 4, 2) := by decide +kernel
theorem dX7_thief_66 : decode cX7_thief 66 = .ok (.iconst 1, 1) := by decide +kernel
theorem dX7_thief_67 : decode cX7_thief 67 = .ok (.iload_n 2, 1) := by decide +kernel
theorem dX7_thief_68 : decode cX7_thief 68 = .ok (.invokevirtual 81, 3) := by decide +kernel
theorem dX7_thief_71 : decode cX7_thief 71 = .ok (.istore 6, 2) := by decide +kernel
theorem dX7_thief_73 : decode cX7_thief 73 = .ok (.iload_n 1, 1) := by decide +kernel
theorem dX7_thief_74 : decode cX7_thief 74 = .ok (.iload 5, 2) := by decide +kernel
theorem dX7_thief_76 : decode cX7_thief 76 = .ok (.iconst (-1), 1) := by decide +kernel
theorem dX7_thief_77 : decode cX7_thief 77 = .ok (.ixor, 1) := by decide +kernel
theorem dX7_thief_78 : decode cX7_thief 78 = .ok (.iand, 1) := by decide +kernel
theorem dX7_thief_79 : decode cX7_thief 79 = .ok (.ifCond .eq 12, 3) := by decide +kernel
theorem dX7_thief_82 : decode cX7_thief 82 = .ok (.iload_n 1, 1) := by decide +kernel
theorem dX7_thief_83 : decode cX7_thief 83 = .ok (.iload 6, 2) := by decide +kernel
theorem dX7_thief_85 : decode cX7_thief 85 = .ok (.iconst (-1), 1) := by decide +kernel
theorem dX7_thief_86 : decode cX7_thief 86 = .ok (.ixor, 1) := by decide +kernel
theorem dX7_thief_87 : decode cX7_thief 87 = .ok (.iand, 1) := by decide +kernel
theorem dX7_thief_88 : decode cX7_thief 88 = .ok (.ifCond .ne 10, 3) := by decide +kernel
theorem dX7_thief_91 : decode cX7_thief 91 = .ok (.iload_n 3, 1) := by decide +kernel
theorem dX7_thief_92 : decode cX7_thief 92 = .ok (.iconst 1, 1) := by decide +kernel
theorem dX7_thief_93 : decode cX7_thief 93 = .ok (.iload 4, 2) := by decide +kernel
theorem dX7_thief_95 : decode cX7_thief 95 = .ok (.ishl, 1) := by decide +kernel
theorem dX7_thief_96 : decode cX7_thief 96 = .ok (.ior, 1) := by decide +kernel
theorem dX7_thief_97 : decode cX7_thief 97 = .ok (.istore_n 3, 1) := by decide +kernel
theorem dX7_thief_98 : decode cX7_thief 98 = .ok (.iinc 4 1, 3) := by decide +kernel
theorem dX7_thief_101 : decode cX7_thief 101 = .ok (.goto (-67), 3) := by decide +kernel
theorem dX7_thief_104 : decode cX7_thief 104 = .ok (.iload_n 3, 1) := by decide +kernel
theorem dX7_thief_105 : decode cX7_thief 105 = .ok (.ireturn, 1) := by decide +kernel
theorem dX7_both_0 : decode cX7_both 0 = .ok (.aload_n 0, 1) := by decide +kernel
theorem dX7_both_1 : decode cX7_both 1 = .ok (.getfield 10, 3) := by decide +kernel
theorem dX7_both_4 : decode cX7_both 4 = .ok (.iconst 0, 1) := by decide +kernel
theorem dX7_both_5 : decode cX7_both 5 = .ok (.invokevirtual 226, 3) := by decide +kernel
theorem dX7_both_8 : decode cX7_both 8 = .ok (.aload_n 0, 1) := by decide +kernel
theorem dX7_both_9 : decode cX7_both 9 = .ok (.getfield 10, 3) := by decide +kernel
theorem dX7_both_12 : decode cX7_both 12 = .ok (.iconst 1, 1) := by decide +kernel
theorem dX7_both_13 : decode cX7_both 13 = .ok (.invokevirtual 226, 3) := by decide +kernel
theorem dX7_both_16 : decode cX7_both 16 = .ok (.iand, 1) := by decide +kernel
theorem dX7_both_17 : decode cX7_both 17 = .ok (.ireturn, 1) := by decide +kernel
theorem dX7_seed_0 : decode cX7_seed 0 = .ok (.aload_n 0, 1) := by decide +kernel
theorem dX7_seed_1 : decode cX7_seed 1 = .ok (.getfield 10, 3) := by decide +kernel
theorem dX7_seed_4 : decode cX7_seed 4 = .ok (.getfield 245, 3) := by decide +kernel
theorem dX7_seed_7 : decode cX7_seed 7 = .ok (.istore_n 2, 1) := by decide +kernel
theorem dX7_seed_8 : decode cX7_seed 8 = .ok (.aload_n 0, 1) := by decide +kernel
theorem dX7_seed_9 : decode cX7_seed 9 = .ok (.getfield 10, 3) := by decide +kernel
theorem dX7_seed_12 : decode cX7_seed 12 = .ok (.iload_n 1, 1) := by decide +kernel
theorem dX7_seed_13 : decode cX7_seed 13 = .ok (.putfield 245, 3) := by decide +kernel
theorem dX7_seed_16 : decode cX7_seed 16 = .ok (.iload_n 2, 1) := by decide +kernel
theorem dX7_seed_17 : decode cX7_seed 17 = .ok (.ireturn, 1) := by decide +kernel
theorem dX7_voice_0 : decode cX7_voice 0 = .ok (.aload_n 0, 1) := by decide +kernel
theorem dX7_voice_1 : decode cX7_voice 1 = .ok (.iload_n 1, 1) := by decide +kernel
theorem dX7_voice_2 : decode cX7_voice 2 = .ok (.invokevirtual 132, 3) := by decide +kernel
theorem dX7_voice_5 : decode cX7_voice 5 = .ok (.ifCond .eq 12, 3) := by decide +kernel
theorem dX7_voice_8 : decode cX7_voice 8 = .ok (.iload_n 2, 1) := by decide +kernel
theorem dX7_voice_9 : decode cX7_voice 9 = .ok (.iconst 0, 1) := by decide +kernel
theorem dX7_voice_10 : decode cX7_voice 10 = .ok (.iconst 3, 1) := by decide +kernel
theorem dX7_voice_11 : decode cX7_voice 11 = .ok (.invokestatic 58, 3) := by decide +kernel
theorem dX7_voice_14 : decode cX7_voice 14 = .ok (.ifCond .ne 9, 3) := by decide +kernel
theorem dX7_voice_17 : decode cX7_voice 17 = .ok (.aload_n 0, 1) := by decide +kernel
theorem dX7_voice_18 : decode cX7_voice 18 = .ok (.iconst 1, 1) := by decide +kernel
theorem dX7_voice_19 : decode cX7_voice 19 = .ok (.invokevirtual 62, 3) := by decide +kernel
theorem dX7_voice_22 : decode cX7_voice 22 = .ok (.ireturn, 1) := by decide +kernel
theorem dX7_voice_23 : decode cX7_voice 23 = .ok (.aload_n 0, 1) := by decide +kernel
theorem dX7_voice_24 : decode cX7_voice 24 = .ok (.getfield 10, 3) := by decide +kernel
theorem dX7_voice_27 : decode cX7_voice 27 = .ok (.getfield 122, 3) := by decide +kernel
theorem dX7_voice_30 : decode cX7_voice 30 = .ok (.iload_n 1, 1) := by decide +kernel
theorem dX7_voice_31 : decode cX7_voice 31 = .ok (.aaload, 1) := by decide +kernel
theorem dX7_voice_32 : decode cX7_voice 32 = .ok (.astore 4, 2) := by decide +kernel
theorem dX7_voice_34 : decode cX7_voice 34 = .ok (.aload_n 0, 1) := by decide +kernel
theorem dX7_voice_35 : decode cX7_voice 35 = .ok (.getfield 33, 3) := by decide +kernel
theorem dX7_voice_38 : decode cX7_voice 38 = .ok (.aload 4, 2) := by decide +kernel
theorem dX7_voice_40 : decode cX7_voice 40 = .ok (.getfield 135, 3) := by decide +kernel
theorem dX7_voice_43 : decode cX7_voice 43 = .ok (.iload_n 1, 1) := by decide +kernel
theorem dX7_voice_44 : decode cX7_voice 44 = .ok (.aload 4, 2) := by decide +kernel
theorem dX7_voice_46 : decode cX7_voice 46 = .ok (.getfield 138, 3) := by decide +kernel
theorem dX7_voice_49 : decode cX7_voice 49 = .ok (.iload_n 2, 1) := by decide +kernel
theorem dX7_voice_50 : decode cX7_voice 50 = .ok (.iload_n 3, 1) := by decide +kernel
theorem dX7_voice_51 : decode cX7_voice 51 = .ok (.invokevirtual 248, 3) := by decide +kernel
theorem dX7_voice_54 : decode cX7_voice 54 = .ok (.ireturn, 1) := by decide +kernel
theorem dX7_trace_0 : decode cX7_trace 0 = .ok (.iload_n 1, 1) := by decide +kernel
theorem dX7_trace_1 : decode cX7_trace 1 = .ok (.iconst 0, 1) := by decide +kernel
theorem dX7_trace_2 : decode cX7_trace 2 = .ok (.aload_n 0, 1) := by decide +kernel
theorem dX7_trace_3 : decode cX7_trace 3 = .ok (.getfield 33, 3) := by decide +kernel
theorem dX7_trace_6 : decode cX7_trace 6 = .ok (.getfield 252, 3) := by decide +kernel
theorem dX7_trace_9 : decode cX7_trace 9 = .ok (.iconst 1, 1) := by decide +kernel
theorem dX7_trace_10 : decode cX7_trace 10 = .ok (.isub, 1) := by decide +kernel
theorem dX7_trace_11 : decode cX7_trace 11 = .ok (.invokestatic 58, 3) := by decide +kernel
theorem dX7_trace_14 : decode cX7_trace 14 = .ok (.ifCond .ne 9, 3) := by decide +kernel
theorem dX7_trace_17 : decode cX7_trace 17 = .ok (.aload_n 0, 1) := by decide +kernel
theorem dX7_trace_18 : decode cX7_trace 18 = .ok (.iconst 2, 1) := by decide +kernel
theorem dX7_trace_19 : decode cX7_trace 19 = .ok (.invokevirtual 62, 3) := by decide +kernel
theorem dX7_trace_22 : decode cX7_trace 22 = .ok (.ireturn, 1) := by decide +kernel
theorem dX7_trace_23 : decode cX7_trace 23 = .ok (.aload_n 0, 1) := by decide +kernel
theorem dX7_trace_24 : decode cX7_trace 24 = .ok (.getfield 33, 3) := by decide +kernel
theorem dX7_trace_27 : decode cX7_trace 27 = .ok (.getfield 255, 3) := by decide +kernel
theorem dX7_trace_30 : decode cX7_trace 30 = .ok (.iload_n 1, 1) := by decide +kernel
theorem dX7_trace_31 : decode cX7_trace 31 = .ok (.iaload, 1) := by decide +kernel
theorem dX7_trace_32 : decode cX7_trace 32 = .ok (.ireturn, 1) := by decide +kernel
theorem dX7_sheet_0 : decode cX7_sheet 0 = .ok (.iload_n 1, 1) := by decide +kernel
theorem dX7_sheet_1 : decode cX7_sheet 1 = .ok (.invokestatic 258, 3) := by decide +kernel
theorem dX7_sheet_4 : decode cX7_sheet 4 = .ok (.ifCond .eq 25, 3) := by decide +kernel
theorem dX7_sheet_7 : decode cX7_sheet 7 = .ok (.iload_n 2, 1) := by decide +kernel
theorem dX7_sheet_8 : decode cX7_sheet 8 = .ok (.ifCond .eq 27, 3) := by decide +kernel
theorem dX7_sheet_11 : decode cX7_sheet 11 = .ok (.iload_n 2, 1) := by decide +kernel
theorem dX7_sheet_12 : decode cX7_sheet 12 = .ok (.bipush 8, 2) := by decide +kernel
theorem dX7_sheet_14 : decode cX7_sheet 14 = .ok (.if_icmp .eq 21, 3) := by decide +kernel
theorem dX7_sheet_17 : decode cX7_sheet 17 = .ok (.iload_n 2, 1) := by decide +kernel
theorem dX7_sheet_18 : decode cX7_sheet 18 = .ok (.bipush 16, 2) := by decide +kernel
theorem dX7_sheet_20 : decode cX7_sheet 20 = .ok (.if_icmp .eq 15, 3) := by decide +kernel
theorem dX7_sheet_23 : decode cX7_sheet 23 = .ok (.iload_n 2, 1) := by decide +kernel
theorem dX7_sheet_24 : decode cX7_sheet 24 = .ok (.bipush 32, 2) := by decide +kernel
theorem dX7_sheet_26 : decode cX7_sheet 26 = .ok (.if_icmp .eq 9, 3) := by decide +kernel
theorem dX7_sheet_29 : decode cX7_sheet 29 = .ok (.aload_n 0, 1) := by decide +kernel
theorem dX7_sheet_30 : decode cX7_sheet 30 = .ok (.iconst 1, 1) := by decide +kernel
theorem dX7_sheet_31 : decode cX7_sheet 31 = .ok (.invokevirtual 62, 3) := by decide +kernel
theorem dX7_sheet_34 : decode cX7_sheet 34 = .ok (.ireturn, 1) := by decide +kernel
theorem dX7_sheet_35 : decode cX7_sheet 35 = .ok (.iload_n 2, 1) := by decide +kernel
theorem dX7_sheet_36 : decode cX7_sheet 36 = .ok (.ifCond .eq 13, 3) := by decide +kernel
theorem dX7_sheet_39 : decode cX7_sheet 39 = .ok (.iload_n 3, 1) := by decide +kernel
theorem dX7_sheet_40 : decode cX7_sheet 40 = .ok (.ifCond .ge 9, 3) := by decide +kernel
theorem dX7_sheet_43 : decode cX7_sheet 43 = .ok (.aload_n 0, 1) := by decide +kernel
theorem dX7_sheet_44 : decode cX7_sheet 44 = .ok (.iconst 3, 1) := by decide +kernel
theorem dX7_sheet_45 : decode cX7_sheet 45 = .ok (.invokevirtual 62, 3) := by decide +kernel
theorem dX7_sheet_48 : decode cX7_sheet 48 = .ok (.ireturn, 1) := by decide +kernel
theorem dX7_sheet_49 : decode cX7_sheet 49 = .ok (.iload_n 2, 1) := by decide +kernel
theorem dX7_sheet_50 : decode cX7_sheet 50 = .ok (.ifCond .eq 15, 3) := by decide +kernel
theorem dX7_sheet_53 : decode cX7_sheet 53 = .ok (.iload_n 3, 1) := by decide +kernel
theorem dX7_sheet_54 : decode cX7_sheet 54 = .ok (.bipush 40, 2) := by decide +kernel
theorem dX7_sheet_56 : decode cX7_sheet 56 = .ok (.if_icmp .le 9, 3) := by decide +kernel
theorem dX7_sheet_59 : decode cX7_sheet 59 = .ok (.aload_n 0, 1) := by decide +kernel
theorem dX7_sheet_60 : decode cX7_sheet 60 = .ok (.iconst 1, 1) := by decide +kernel
theorem dX7_sheet_61 : decode cX7_sheet 61 = .ok (.invokevirtual 62, 3) := by decide +kernel
theorem dX7_sheet_64 : decode cX7_sheet 64 = .ok (.ireturn, 1) := by decide +kernel
theorem dX7_sheet_65 : decode cX7_sheet 65 = .ok (.aload_n 0, 1) := by decide +kernel
theorem dX7_sheet_66 : decode cX7_sheet 66 = .ok (.getfield 39, 3) := by decide +kernel
theorem dX7_sheet_69 : decode cX7_sheet 69 = .ok (.iload_n 1, 1) := by decide +kernel
theorem dX7_sheet_70 : decode cX7_sheet 70 = .ok (.aaload, 1) := by decide +kernel
theorem dX7_sheet_71 : decode cX7_sheet 71 = .ok (.iload_n 2, 1) := by decide +kernel
theorem dX7_sheet_72 : decode cX7_sheet 72 = .ok (.iload_n 3, 1) := by decide +kernel
theorem dX7_sheet_73 : decode cX7_sheet 73 = .ok (.invokevirtual 261, 3) := by decide +kernel
theorem dX7_sheet_76 : decode cX7_sheet 76 = .ok (.iconst 1, 1) := by decide +kernel
theorem dX7_sheet_77 : decode cX7_sheet 77 = .ok (.ireturn, 1) := by decide +kernel
theorem dX7_put_0 : decode cX7_put 0 = .ok (.iload_n 1, 1) := by decide +kernel
theorem dX7_put_1 : decode cX7_put 1 = .ok (.invokestatic 258, 3) := by decide +kernel
theorem dX7_put_4 : decode cX7_put 4 = .ok (.ifCond .ne 9, 3) := by decide +kernel
theorem dX7_put_7 : decode cX7_put 7 = .ok (.aload_n 0, 1) := by decide +kernel
theorem dX7_put_8 : decode cX7_put 8 = .ok (.iconst 1, 1) := by decide +kernel
theorem dX7_put_9 : decode cX7_put 9 = .ok (.invokevirtual 62, 3) := by decide +kernel
theorem dX7_put_12 : decode cX7_put 12 = .ok (.ireturn, 1) := by decide +kernel
theorem dX7_put_13 : decode cX7_put 13 = .ok (.aload_n 0, 1) := by decide +kernel
theorem dX7_put_14 : decode cX7_put 14 = .ok (.getfield 39, 3) := by decide +kernel
theorem dX7_put_17 : decode cX7_put 17 = .ok (.iload_n 1, 1) := by decide +kernel
theorem dX7_put_18 : decode cX7_put 18 = .ok (.aaload, 1) := by decide +kernel
theorem dX7_put_19 : decode cX7_put 19 = .ok (.astore 4, 2) := by decide +kernel
theorem dX7_put_21 : decode cX7_put 21 = .ok (.aload 4, 2) := by decide +kernel
theorem dX7_put_23 : decode cX7_put 23 = .ok (.getfield 264, 3) := by decide +kernel
theorem dX7_put_26 : decode cX7_put 26 = .ok (.ifCond .ne 9, 3) := by decide +kernel
theorem dX7_put_29 : decode cX7_put 29 = .ok (.aload_n 0, 1) := by decide +kernel
theorem dX7_put_30 : decode cX7_put 30 = .ok (.iconst 2, 1) := by decide +kernel
theorem dX7_put_31 : decode cX7_put 31 = .ok (.invokevirtual 62, 3) := by decide +kernel
theorem dX7_put_34 : decode cX7_put 34 = .ok (.ireturn, 1) := by decide +kernel
theorem dX7_put_35 : decode cX7_put 35 = .ok (.iload_n 2, 1) := by decide +kernel
theorem dX7_put_36 : decode cX7_put 36 = .ok (.iconst 0, 1) := by decide +kernel
theorem dX7_put_37 : decode cX7_put 37 = .ok (.aload 4, 2) := by decide +kernel
theorem dX7_put_39 : decode cX7_put 39 = .ok (.getfield 267, 3) := by decide +kernel
theorem dX7_put_42 : decode cX7_put 42 = .ok (.iconst 1, 1) := by decide +kernel
theorem dX7_put_43 : decode cX7_put 43 = .ok (.isub, 1) := by decide +kernel
theorem dX7_put_44 : decode cX7_put 44 = .ok (.invokestatic 58, 3) := by decide +kernel
theorem dX7_put_47 : decode cX7_put 47 = .ok (.ifCond .ne 9, 3) := by decide +kernel
theorem dX7_put_50 : decode cX7_put 50 = .ok (.aload_n 0, 1) := by decide +kernel
theorem dX7_put_51 : decode cX7_put 51 = .ok (.iconst 1, 1) := by decide +kernel
theorem dX7_put_52 : decode cX7_put 52 = .ok (.invokevirtual 62, 3) := by decide +kernel
theorem dX7_put_55 : decode cX7_put 55 = .ok (.ireturn, 1) := by decide +kernel
theorem dX7_put_56 : decode cX7_put 56 = .ok (.aload 4, 2) := by decide +kernel
theorem dX7_put_58 : decode cX7_put 58 = .ok (.getfield 270, 3) := by decide +kernel
theorem dX7_put_61 : decode cX7_put 61 = .ok (.iload_n 2, 1) := by decide +kernel
theorem dX7_put_62 : decode cX7_put 62 = .ok (.aload 4, 2) := by decide +kernel
theorem dX7_put_64 : decode cX7_put 64 = .ok (.iload_n 3, 1) := by decide +kernel
theorem dX7_put_65 : decode cX7_put 65 = .ok (.invokevirtual 273, 3) := by decide +kernel
theorem dX7_put_68 : decode cX7_put 68 = .ok (.iastore, 1) := by decide +kernel
theorem dX7_put_69 : decode cX7_put 69 = .ok (.iconst 1, 1) := by decide +kernel
theorem dX7_put_70 : decode cX7_put 70 = .ok (.ireturn, 1) := by decide +kernel
theorem dX7_move_0 : decode cX7_move 0 = .ok (.iload_n 1, 1) := by decide +kernel
theorem dX7_move_1 : decode cX7_move 1 = .ok (.invokestatic 258, 3) := by decide +kernel
theorem dX7_move_4 : decode cX7_move 4 = .ok (.ifCond .eq 10, 3) := by decide +kernel
theorem dX7_move_7 : decode cX7_move 7 = .ok (.iload_n 3, 1) := by decide +kernel
theorem dX7_move_8 : decode cX7_move 8 = .ok (.invokestatic 258, 3) := by decide +kernel
theorem dX7_move_11 : decode cX7_move 11 = .ok (.ifCond .ne 9, 3) := by decide +kernel
theorem dX7_move_14 : decode cX7_move 14 = .ok (.aload_n 0, 1) := by decide +kernel
theorem dX7_move_15 : decode cX7_move 15 = .ok (.iconst 1, 1) := by decide +kernel
theorem dX7_move_16 : decode cX7_move 16 = .ok (.invokevirtual 62, 3) := by decide +kernel
theorem dX7_move_19 : decode cX7_move 19 = .ok (.ireturn, 1) := by decide +kernel
theorem dX7_move_20 : decode cX7_move 20 = .ok (.aload_n 0, 1) := by decide +kernel
theorem dX7_move_21 : decode cX7_move 21 = .ok (.getfield 39, 3) := by decide +kernel
theorem dX7_move_24 : decode cX7_move 24 = .ok (.iload_n 1, 1) := by decide +kernel
theorem dX7_move_25 : decode cX7_move 25 = .ok (.aaload, 1) := by decide +kernel
theorem dX7_move_26 : decode cX7_move 26 = .ok (.astore 6, 2) := by decide +kernel
theorem dX7_move_28 : decode cX7_move 28 = .ok (.aload_n 0, 1) := by decide +kernel
theorem dX7_move_29 : decode cX7_move 29 = .ok (.getfield 39, 3) := by decide +kernel
theorem dX7_move_32 : decode cX7_move 32 = .ok (.iload_n 3, 1) := by decide +kernel
theorem dX7_move_33 : decode cX7_move 33 = .ok (.aaload, 1) := by decide +kernel
theorem dX7_move_34 : decode cX7_move 34 = .ok (.astore 7, 2) := by decide +kernel
theorem dX7_move_36 : decode cX7_move 36 = .ok (.aload 6, 2) := by decide +kernel
theorem dX7_move_38 : decode cX7_move 38 = .ok (.getfield 264, 3) := by decide +kernel
theorem dX7_move_41 : decode cX7_move 41 = .ok (.ifCond .eq 11, 3) := by decide +kernel
theorem dX7_move_44 : decode cX7_move 44 = .ok (.aload 7, 2) := by decide +kernel
theorem dX7_move_46 : decode cX7_move 46 = .ok (.getfield 264, 3) := by decide +kernel
theorem dX7_move_49 : decode cX7_move 49 = .ok (.ifCond .ne 9, 3) := by decide +kernel
theorem dX7_move_52 : decode cX7_move 52 = .ok (.aload_n 0, 1) := by decide +kernel
theorem dX7_move_53 : decode cX7_move 53 = .ok (.iconst 2, 1) := by decide +kernel
theorem dX7_move_54 : decode cX7_move 54 = .ok (.invokevirtual 62, 3) := by decide +kernel
theorem dX7_move_57 : decode cX7_move 57 = .ok (.ireturn, 1) := by decide +kernel
theorem dX7_move_58 : decode cX7_move 58 = .ok (.aload 6, 2) := by decide +kernel
theorem dX7_move_60 : decode cX7_move 60 = .ok (.getfield 264, 3) := by decide +kernel
theorem dX7_move_63 : decode cX7_move 63 = .ok (.aload 7, 2) := by decide +kernel
theorem dX7_move_65 : decode cX7_move 65 = .ok (.getfield 264, 3) := by decide +kernel
theorem dX7_move_68 : decode cX7_move 68 = .ok (.if_icmp .eq 9, 3) := by decide +kernel
theorem dX7_move_71 : decode cX7_move 71 = .ok (.aload_n 0, 1) := by decide +kernel
theorem dX7_move_72 : decode cX7_move 72 = .ok (.iconst 5, 1) := by decide +kernel
theorem dX7_move_73 : decode cX7_move 73 = .ok (.invokevirtual 62, 3) := by decide +kernel
theorem dX7_move_76 : decode cX7_move 76 = .ok (.ireturn, 1) := by decide +kernel
theorem dX7_move_77 : decode cX7_move 77 = .ok (.aload 6, 2) := by decide +kernel
theorem dX7_move_79 : decode cX7_move 79 = .ok (.iload_n 2, 1) := by decide +kernel
theorem dX7_move_80 : decode cX7_move 80 = .ok (.iload 5, 2) := by decide +kernel
theorem dX7_move_82 : decode cX7_move 82 = .ok (.invokevirtual 276, 3) := by decide +kernel
theorem dX7_move_85 : decode cX7_move 85 = .ok (.ifCond .eq 15, 3) := by decide +kernel
theorem dX7_move_88 : decode cX7_move 88 = .ok (.aload 7, 2) := by decide +kernel
theorem dX7_move_90 : decode cX7_move 90 = .ok (.iload 4, 2) := by decide +kernel
theorem dX7_move_92 : decode cX7_move 92 = .ok (.iload 5, 2) := by decide +kernel
theorem dX7_move_94 : decode cX7_move 94 = .ok (.invokevirtual 276, 3) := by decide +kernel
theorem dX7_move_97 : decode cX7_move 97 = .ok (.ifCond .ne 9, 3) := by decide +kernel
theorem dX7_move_100 : decode cX7_move 100 = .ok (.aload_n 0, 1) := by decide +kernel
theorem dX7_move_101 : decode cX7_move 101 = .ok (.iconst 1, 1) := by decide +kernel
theorem dX7_move_102 : decode cX7_move 102 = .ok (.invokevirtual 62, 3) := by decide +kernel
theorem dX7_move_105 : decode cX7_move 105 = .ok (.ireturn, 1) := by decide +kernel
theorem dX7_move_106 : decode cX7_move 106 = .ok (.aload 6, 2) := by decide +kernel
theorem dX7_move_108 : decode cX7_move 108 = .ok (.getfield 270, 3) := by decide +kernel
theorem dX7_move_111 : decode cX7_move 111 = .ok (.iload_n 2, 1) := by decide +kernel
theorem dX7_move_112 : decode cX7_move 112 = .ok (.aload 7, 2) := by decide +kernel
theorem dX7_move_114 : decode cX7_move 114 = .ok (.getfield 270, 3) := by decide +kernel
theorem dX7_move_117 : decode cX7_move 117 = .ok (.iload 4, 2) := by decide +kernel
theorem dX7_move_119 : decode cX7_move 119 = .ok (.iload 5, 2) := by decide +kernel
theorem dX7_move_121 : decode cX7_move 121 = .ok (.invokestatic 280, 3) := by decide +kernel
theorem dX7_move_124 : decode cX7_move 124 = .ok (.iload 5, 2) := by decide +kernel
theorem dX7_move_126 : decode cX7_move 126 = .ok (.ireturn, 1) := by decide +kernel
theorem dX7_heights_0 : decode cX7_heights 0 = .ok (.iload_n 1, 1) := by decide +kernel
theorem dX7_heights_1 : decode cX7_heights 1 = .ok (.invokestatic 258, 3) := by decide +kernel
theorem dX7_heights_4 : decode cX7_heights 4 = .ok (.ifCond .ne 9, 3) := by decide +kernel
theorem dX7_heights_7 : decode cX7_heights 7 = .ok (.aload_n 0, 1) := by decide +kernel
theorem dX7_heights_8 : decode cX7_heights 8 = .ok (.iconst 1, 1) := by decide +kernel
theorem dX7_heights_9 : decode cX7_heights 9 = .ok (.invokevirtual 62, 3) := by decide +kernel
theorem dX7_heights_12 : decode cX7_heights 12 = .ok (.ireturn, 1) := by decide +kernel
theorem dX7_heights_13 : decode cX7_heights 13 = .ok (.aload_n 0, 1) := by decide +kernel
theorem dX7_heights_14 : decode cX7_heights 14 = .ok (.getfield 39, 3) := by decide +kernel
theorem dX7_heights_17 : decode cX7_heights 17 = .ok (.iload_n 1, 1) := by decide +kernel
theorem dX7_heights_18 : decode cX7_heights 18 = .ok (.aaload, 1) := by decide +kernel
theorem dX7_heights_19 : decode cX7_heights 19 = .ok (.astore_n 2, 1) := by decide +kernel
theorem dX7_heights_20 : decode cX7_heights 20 = .ok (.aload_n 2, 1) := by decide +kernel
theorem dX7_heights_21 : decode cX7_heights 21 = .ok (.getfield 264, 3) := by decide +kernel
theorem dX7_heights_24 : decode cX7_heights 24 = .ok (.ifCond .ne 9, 3) := by decide +kernel
theorem dX7_heights_27 : decode cX7_heights 27 = .ok (.aload_n 0, 1) := by decide +kernel
theorem dX7_heights_28 : decode cX7_heights 28 = .ok (.iconst 2, 1) := by decide +kernel
theorem dX7_heights_29 : decode cX7_heights 29 = .ok (.invokevirtual 62, 3) := by decide +kernel
theorem dX7_heights_32 : decode cX7_heights 32 = .ok (.ireturn, 1) := by decide +kernel
theorem dX7_heights_33 : decode cX7_heights 33 = .ok (.iconst 0, 1) := by decide +kernel
theorem dX7_heights_34 : decode cX7_heights 34 = .ok (.istore_n 3, 1) := by decide +kernel
theorem dX7_heights_35 : decode cX7_heights 35 = .ok (.iload_n 3, 1) := by decide +kernel
theorem dX7_heights_36 : decode cX7_heights 36 = .ok (.bipush 20, 2) := by decide +kernel
theorem dX7_heights_38 : decode cX7_heights 38 = .ok (.if_icmp .ge 50, 3) := by decide +kernel
theorem dX7_heights_41 : decode cX7_heights 41 = .ok (.iload_n 3, 1) := by decide +kernel
theorem dX7_heights_42 : decode cX7_heights 42 = .ok (.aload_n 2, 1) := by decide +kernel
theorem dX7_heights_43 : decode cX7_heights 43 = .ok (.getfield 267, 3) := by decide +kernel
theorem dX7_heights_46 : decode cX7_heights 46 = .ok (.if_icmp .ge 42, 3) := by decide +kernel
theorem dX7_heights_49 : decode cX7_heights 49 = .ok (.aload_n 2, 1) := by decide +kernel
theorem dX7_heights_50 : decode cX7_heights 50 = .ok (.getfield 270, 3) := by decide +kernel
theorem dX7_heights_53 : decode cX7_heights 53 = .ok (.iload_n 3, 1) := by decide +kernel
theorem dX7_heights_54 : decode cX7_heights 54 = .ok (.iaload, 1) := by decide +kernel
theorem dX7_heights_55 : decode cX7_heights 55 = .ok (.iconst 0, 1) := by decide +kernel
theorem dX7_heights_56 : decode cX7_heights 56 = .ok (.bipush 20, 2) := by decide +kernel
theorem dX7_heights_58 : decode cX7_heights 58 = .ok (.invokestatic 58, 3) := by decide +kernel
theorem dX7_heights_61 : decode cX7_heights 61 = .ok (.ifCond .eq 27, 3) := by decide +kernel
theorem dX7_heights_64 : decode cX7_heights 64 = .ok (.aload_n 0, 1) := by decide +kernel
theorem dX7_heights_65 : decode cX7_heights 65 = .ok (.getfield 10, 3) := by decide +kernel
theorem dX7_heights_68 : decode cX7_heights 68 = .ok (.getfield 66, 3) := by decide +kernel
theorem dX7_heights_71 : decode cX7_heights 71 = .ok (.getfield 70, 3) := by decide +kernel
theorem dX7_heights_74 : decode cX7_heights 74 = .ok (.iload_n 3, 1) := by decide +kernel
theorem dX7_heights_75 : decode cX7_heights 75 = .ok (.aload_n 2, 1) := by decide +kernel
theorem dX7_heights_76 : decode cX7_heights 76 = .ok (.getfield 270, 3) := by decide +kernel
theorem dX7_heights_79 : decode cX7_heights 79 = .ok (.iload_n 3, 1) := by decide +kernel
theorem dX7_heights_80 : decode cX7_heights 80 = .ok (.iaload, 1) := by decide +kernel
theorem dX7_heights_81 : decode cX7_heights 81 = .ok (.iastore, 1) := by decide +kernel
theorem dX7_heights_82 : decode cX7_heights 82 = .ok (.iinc 3 1, 3) := by decide +kernel
theorem dX7_heights_85 : decode cX7_heights 85 = .ok (.goto (-50), 3) := by decide +kernel
theorem dX7_heights_88 : decode cX7_heights 88 = .ok (.iload_n 3, 1) := by decide +kernel
theorem dX7_heights_89 : decode cX7_heights 89 = .ok (.ireturn, 1) := by decide +kernel
theorem dX7_judge_0 : decode cX7_judge 0 = .ok (.iload_n 1, 1) := by decide +kernel
theorem dX7_judge_1 : decode cX7_judge 1 = .ok (.invokestatic 258, 3) := by decide +kernel
theorem dX7_judge_4 : decode cX7_judge 4 = .ok (.ifCond .ne 9, 3) := by decide +kernel
theorem dX7_judge_7 : decode cX7_judge 7 = .ok (.aload_n 0, 1) := by decide +kernel
theorem dX7_judge_8 : decode cX7_judge 8 = .ok (.iconst 1, 1) := by decide +kernel
theorem dX7_judge_9 : decode cX7_judge 9 = .ok (.invokevirtual 62, 3) := by decide +kernel
theorem dX7_judge_12 : decode cX7_judge 12 = .ok (.ireturn, 1) := by decide +kernel
theorem dX7_judge_13 : decode cX7_judge 13 = .ok (.aload_n 0, 1) := by decide +kernel
theorem dX7_judge_14 : decode cX7_judge 14 = .ok (.getfield 39, 3) := by decide +kernel
theorem dX7_judge_17 : decode cX7_judge 17 = .ok (.iload_n 1, 1) := by decide +kernel
theorem dX7_judge_18 : decode cX7_judge 18 = .ok (.aaload, 1) := by decide +kernel
theorem dX7_judge_19 : decode cX7_judge 19 = .ok (.astore_n 2, 1) := by decide +kernel
theorem dX7_judge_20 : decode cX7_judge 20 = .ok (.aload_n 2, 1) := by decide +kernel
theorem dX7_judge_21 : decode cX7_judge 21 = .ok (.getfield 264, 3) := by decide +kernel
theorem dX7_judge_24 : decode cX7_judge 24 = .ok (.ifCond .ne 9, 3) := by decide +kernel
theorem dX7_judge_27 : decode cX7_judge 27 = .ok (.aload_n 0, 1) := by decide +kernel
theorem dX7_judge_28 : decode cX7_judge 28 = .ok (.iconst 2, 1) := by decide +kernel
theorem dX7_judge_29 : decode cX7_judge 29 = .ok (.invokevirtual 62, 3) := by decide +kernel
theorem dX7_judge_32 : decode cX7_judge 32 = .ok (.ireturn, 1) := by decide +kernel
theorem dX7_judge_33 : decode cX7_judge 33 = .ok (.iconst 0, 1) := by decide +kernel
theorem dX7_judge_34 : decode cX7_judge 34 = .ok (.istore_n 3, 1) := by decide +kernel
theorem dX7_judge_35 : decode cX7_judge 35 = .ok (.iload_n 3, 1) := by decide +kernel
theorem dX7_judge_36 : decode cX7_judge 36 = .ok (.bipush 20, 2) := by decide +kernel
theorem dX7_judge_38 : decode cX7_judge 38 = .ok (.if_icmp .ge 38, 3) := by decide +kernel
theorem dX7_judge_41 : decode cX7_judge 41 = .ok (.iload_n 3, 1) := by decide +kernel
theorem dX7_judge_42 : decode cX7_judge 42 = .ok (.aload_n 2, 1) := by decide +kernel
theorem dX7_judge_43 : decode cX7_judge 43 = .ok (.getfield 267, 3) := by decide +kernel
theorem dX7_judge_46 : decode cX7_judge 46 = .ok (.if_icmp .ge 30, 3) := by decide +kernel
theorem dX7_judge_49 : decode cX7_judge 49 = .ok (.aload_n 2, 1) := by decide +kernel
theorem dX7_judge_50 : decode cX7_judge 50 = .ok (.getfield 270, 3) := by decide +kernel
theorem dX7_judge_53 : decode cX7_judge 53 = .ok (.iload_n 3, 1) := by decide +kernel
theorem dX7_judge_54 : decode cX7_judge 54 = .ok (.iaload, 1) := by decide +kernel
theorem dX7_judge_55 : decode cX7_judge 55 = .ok (.aload_n 0, 1) := by decide +kernel
theorem dX7_judge_56 : decode cX7_judge 56 = .ok (.getfield 10, 3) := by decide +kernel
theorem dX7_judge_59 : decode cX7_judge 59 = .ok (.getfield 66, 3) := by decide +kernel
theorem dX7_judge_62 : decode cX7_judge 62 = .ok (.getfield 75, 3) := by decide +kernel
theorem dX7_judge_65 : decode cX7_judge 65 = .ok (.iload_n 3, 1) := by decide +kernel
theorem dX7_judge_66 : decode cX7_judge 66 = .ok (.iaload, 1) := by decide +kernel
theorem dX7_judge_67 : decode cX7_judge 67 = .ok (.if_icmp .ne 9, 3) := by decide +kernel
theorem dX7_judge_70 : decode cX7_judge 70 = .ok (.iinc 3 1, 3) := by decide +kernel
theorem dX7_judge_73 : decode cX7_judge 73 = .ok (.goto (-38), 3) := by decide +kernel
theorem dX7_judge_76 : decode cX7_judge 76 = .ok (.iload_n 3, 1) := by decide +kernel
theorem dX7_judge_77 : decode cX7_judge 77 = .ok (.bipush 20, 2) := by decide +kernel
theorem dX7_judge_79 : decode cX7_judge 79 = .ok (.if_icmp .ne 15, 3) := by decide +kernel
theorem dX7_judge_82 : decode cX7_judge 82 = .ok (.iload_n 3, 1) := by decide +kernel
theorem dX7_judge_83 : decode cX7_judge 83 = .ok (.aload_n 2, 1) := by decide +kernel
theorem dX7_judge_84 : decode cX7_judge 84 = .ok (.getfield 267, 3) := by decide +kernel
theorem dX7_judge_87 : decode cX7_judge 87 = .ok (.if_icmp .ne 7, 3) := by decide +kernel
theorem dX7_judge_90 : decode cX7_judge 90 = .ok (.iconst (-1), 1) := by decide +kernel
theorem dX7_judge_91 : decode cX7_judge 91 = .ok (.goto 4, 3) := by decide +kernel
theorem dX7_judge_94 : decode cX7_judge 94 = .ok (.iload_n 3, 1) := by decide +kernel
theorem dX7_judge_95 : decode cX7_judge 95 = .ok (.ireturn, 1) := by decide +kernel
theorem dX7_image_0 : decode cX7_image 0 = .ok (.aload_n 0, 1) := by decide +kernel
theorem dX7_image_1 : decode cX7_image 1 = .ok (.getfield 16, 3) := by decide +kernel
theorem dX7_image_4 : decode cX7_image 4 = .ok (.aload_n 0, 1) := by decide +kernel
theorem dX7_image_5 : decode cX7_image 5 = .ok (.getfield 10, 3) := by decide +kernel
theorem dX7_image_8 : decode cX7_image 8 = .ok (.invokevirtual 286, 3) := by decide +kernel
theorem dX7_image_11 : decode cX7_image 11 = .ok (.aload_n 0, 1) := by decide +kernel
theorem dX7_image_12 : decode cX7_image 12 = .ok (.dup, 1) := by decide +kernel
theorem dX7_image_13 : decode cX7_image 13 = .ok (.getfield 19, 3) := by decide +kernel
theorem dX7_image_16 : decode cX7_image 16 = .ok (.iconst 1, 1) := by decide +kernel
theorem dX7_image_17 : decode cX7_image 17 = .ok (.iadd, 1) := by decide +kernel
theorem dX7_image_18 : decode cX7_image 18 = .ok (.putfield 19, 3) := by decide +kernel
theorem dX7_image_21 : decode cX7_image 21 = .ok (.aload_n 0, 1) := by decide +kernel
theorem dX7_image_22 : decode cX7_image 22 = .ok (.getfield 19, 3) := by decide +kernel
theorem dX7_image_25 : decode cX7_image 25 = .ok (.ireturn, 1) := by decide +kernel
theorem dX7_restore_0 : decode cX7_restore 0 = .ok (.aload_n 0, 1) := by decide +kernel
theorem dX7_restore_1 : decode cX7_restore 1 = .ok (.getfield 19, 3) := by decide +kernel
theorem dX7_restore_4 : decode cX7_restore 4 = .ok (.ifCond .ne 9, 3) := by decide +kernel
theorem dX7_restore_7 : decode cX7_restore 7 = .ok (.aload_n 0, 1) := by decide +kernel
theorem dX7_restore_8 : decode cX7_restore 8 = .ok (.iconst 2, 1) := by decide +kernel
theorem dX7_restore_9 : decode cX7_restore 9 = .ok (.invokevirtual 62, 3) := by decide +kernel
theorem dX7_restore_12 : decode cX7_restore 12 = .ok (.ireturn, 1) := by decide +kernel
theorem dX7_restore_13 : decode cX7_restore 13 = .ok (.aload_n 0, 1) := by decide +kernel
theorem dX7_restore_14 : decode cX7_restore 14 = .ok (.getfield 10, 3) := by decide +kernel
theorem dX7_restore_17 : decode cX7_restore 17 = .ok (.aload_n 0, 1) := by decide +kernel
theorem dX7_restore_18 : decode cX7_restore 18 = .ok (.getfield 16, 3) := by decide +kernel
theorem dX7_restore_21 : decode cX7_restore 21 = .ok (.invokevirtual 286, 3) := by decide +kernel
theorem dX7_restore_24 : decode cX7_restore 24 = .ok (.aload_n 0, 1) := by decide +kernel
theorem dX7_restore_25 : decode cX7_restore 25 = .ok (.getfield 10, 3) := by decide +kernel
theorem dX7_restore_28 : decode cX7_restore 28 = .ok (.getfield 210, 3) := by decide +kernel
theorem dX7_restore_31 : decode cX7_restore 31 = .ok (.ireturn, 1) := by decide +kernel
theorem dX7_tell_0 : decode cX7_tell 0 = .ok (.aload_n 0, 1) := by decide +kernel
theorem dX7_tell_1 : decode cX7_tell 1 = .ok (.getfield 10, 3) := by decide +kernel
theorem dX7_tell_4 : decode cX7_tell 4 = .ok (.getfield 290, 3) := by decide +kernel
theorem dX7_tell_7 : decode cX7_tell 7 = .ok (.bipush 20, 2) := by decide +kernel
theorem dX7_tell_9 : decode cX7_tell 9 = .ok (.if_icmp .lt 9, 3) := by decide +kernel
theorem dX7_tell_12 : decode cX7_tell 12 = .ok (.aload_n 0, 1) := by decide +kernel
theorem dX7_tell_13 : decode cX7_tell 13 = .ok (.iconst 4, 1) := by decide +kernel
theorem dX7_tell_14 : decode cX7_tell 14 = .ok (.invokevirtual 62, 3) := by decide +kernel
theorem dX7_tell_17 : decode cX7_tell 17 = .ok (.ireturn, 1) := by decide +kernel
theorem dX7_tell_18 : decode cX7_tell 18 = .ok (.aload_n 0, 1) := by decide +kernel
theorem dX7_tell_19 : decode cX7_tell 19 = .ok (.getfield 10, 3) := by decide +kernel
theorem dX7_tell_22 : decode cX7_tell 22 = .ok (.getfield 293, 3) := by decide +kernel
theorem dX7_tell_25 : decode cX7_tell 25 = .ok (.aload_n 0, 1) := by decide +kernel
theorem dX7_tell_26 : decode cX7_tell 26 = .ok (.getfield 10, 3) := by decide +kernel
theorem dX7_tell_29 : decode cX7_tell 29 = .ok (.getfield 290, 3) := by decide +kernel
theorem dX7_tell_32 : decode cX7_tell 32 = .ok (.iload_n 1, 1) := by decide +kernel
theorem dX7_tell_33 : decode cX7_tell 33 = .ok (.iastore, 1) := by decide +kernel
theorem dX7_tell_34 : decode cX7_tell 34 = .ok (.aload_n 0, 1) := by decide +kernel
theorem dX7_tell_35 : decode cX7_tell 35 = .ok (.getfield 10, 3) := by decide +kernel
theorem dX7_tell_38 : decode cX7_tell 38 = .ok (.dup, 1) := by decide +kernel
theorem dX7_tell_39 : decode cX7_tell 39 = .ok (.getfield 290, 3) := by decide +kernel
theorem dX7_tell_42 : decode cX7_tell 42 = .ok (.iconst 1, 1) := by decide +kernel
theorem dX7_tell_43 : decode cX7_tell 43 = .ok (.iadd, 1) := by decide +kernel
theorem dX7_tell_44 : decode cX7_tell 44 = .ok (.putfield 290, 3) := by decide +kernel
theorem dX7_tell_47 : decode cX7_tell 47 = .ok (.aload_n 0, 1) := by decide +kernel
theorem dX7_tell_48 : decode cX7_tell 48 = .ok (.getfield 10, 3) := by decide +kernel
theorem dX7_tell_51 : decode cX7_tell 51 = .ok (.getfield 290, 3) := by decide +kernel
theorem dX7_tell_54 : decode cX7_tell 54 = .ok (.ireturn, 1) := by decide +kernel
theorem dX7_check_0 : decode cX7_check 0 = .ok (.aload_n 0, 1) := by decide +kernel
theorem dX7_check_1 : decode cX7_check 1 = .ok (.getfield 10, 3) := by decide +kernel
theorem dX7_check_4 : decode cX7_check 4 = .ok (.getfield 290, 3) := by decide +kernel
theorem dX7_check_7 : decode cX7_check 7 = .ok (.istore_n 1, 1) := by decide +kernel
theorem dX7_check_8 : decode cX7_check 8 = .ok (.aload_n 0, 1) := by decide +kernel
theorem dX7_check_9 : decode cX7_check 9 = .ok (.getfield 10, 3) := by decide +kernel
theorem dX7_check_12 : decode cX7_check 12 = .ok (.iconst 0, 1) := by decide +kernel
theorem dX7_check_13 : decode cX7_check 13 = .ok (.putfield 290, 3) := by decide +kernel
theorem dX7_check_16 : decode cX7_check 16 = .ok (.iconst 0, 1) := by decide +kernel
theorem dX7_check_17 : decode cX7_check 17 = .ok (.istore_n 2, 1) := by decide +kernel
theorem dX7_check_18 : decode cX7_check 18 = .ok (.iload_n 2, 1) := by decide +kernel
theorem dX7_check_19 : decode cX7_check 19 = .ok (.iload_n 1, 1) := by decide +kernel
theorem dX7_check_20 : decode cX7_check 20 = .ok (.if_icmp .ge 32, 3) := by decide +kernel
theorem dX7_check_23 : decode cX7_check 23 = .ok (.aload_n 0, 1) := by decide +kernel
theorem dX7_check_24 : decode cX7_check 24 = .ok (.getfield 10, 3) := by decide +kernel
theorem dX7_check_27 : decode cX7_check 27 = .ok (.getfield 293, 3) := by decide +kernel
theorem dX7_check_30 : decode cX7_check 30 = .ok (.iload_n 2, 1) := by decide +kernel
theorem dX7_check_31 : decode cX7_check 31 = .ok (.iaload, 1) := by decide +kernel
theorem dX7_check_32 : decode cX7_check 32 = .ok (.aload_n 0, 1) := by decide +kernel
theorem dX7_check_33 : decode cX7_check 33 = .ok (.iload_n 2, 1) := by decide +kernel
theorem dX7_check_34 : decode cX7_check 34 = .ok (.iconst 1, 1) := by decide +kernel
theorem dX7_check_35 : decode cX7_check 35 = .ok (.iadd, 1) := by decide +kernel
theorem dX7_check_36 : decode cX7_check 36 = .ok (.invokevirtual 216, 3) := by decide +kernel
theorem dX7_check_39 : decode cX7_check 39 = .ok (.if_icmp .eq 7, 3) := by decide +kernel
theorem dX7_check_42 : decode cX7_check 42 = .ok (.iconst 1, 1) := by decide +kernel
theorem dX7_check_43 : decode cX7_check 43 = .ok (.iload_n 2, 1) := by decide +kernel
theorem dX7_check_44 : decode cX7_check 44 = .ok (.iadd, 1) := by decide +kernel
theorem dX7_check_45 : decode cX7_check 45 = .ok (.ireturn, 1) := by decide +kernel
theorem dX7_check_46 : decode cX7_check 46 = .ok (.iinc 2 1, 3) := by decide +kernel
theorem dX7_check_49 : decode cX7_check 49 = .ok (.goto (-31), 3) := by decide +kernel
theorem dX7_check_52 : decode cX7_check 52 = .ok (.iconst 0, 1) := by decide +kernel
theorem dX7_check_53 : decode cX7_check 53 = .ok (.ireturn, 1) := by decide +kernel
theorem dX7_count_0 : decode cX7_count 0 = .ok (.iload_n 1, 1) := by decide +kernel
theorem dX7_count_1 : decode cX7_count 1 = .ok (.tableswitch 148 0 9 #[55, 63, 71, 79, 85, 93, 113, 124, 132, 140], 55) := by decide +kernel
theorem dX7_count_56 : decode cX7_count 56 = .ok (.aload_n 0, 1) := by decide +kernel
theorem dX7_count_57 : decode cX7_count 57 = .ok (.getfield 10, 3) := by decide +kernel
theorem dX7_count_60 : decode cX7_count 60 = .ok (.getfield 97, 3) := by decide +kernel
theorem dX7_count_63 : decode cX7_count 63 = .ok (.ireturn, 1) := by decide +kernel
theorem dX7_count_64 : decode cX7_count 64 = .ok (.aload_n 0, 1) := by decide +kernel
theorem dX7_count_65 : decode cX7_count 65 = .ok (.getfield 10, 3) := by decide +kernel
theorem dX7_count_68 : decode cX7_count 68 = .ok (.getfield 115, 3) := by decide +kernel
theorem dX7_count_71 : decode cX7_count 71 = .ok (.ireturn, 1) := by decide +kernel
theorem dX7_count_72 : decode cX7_count 72 = .ok (.aload_n 0, 1) := by decide +kernel
theorem dX7_count_73 : decode cX7_count 73 = .ok (.getfield 10, 3) := by decide +kernel
theorem dX7_count_76 : decode cX7_count 76 = .ok (.getfield 210, 3) := by decide +kernel
theorem dX7_count_79 : decode cX7_count 79 = .ok (.ireturn, 1) := by decide +kernel
theorem dX7_count_80 : decode cX7_count 80 = .ok (.aload_n 0, 1) := by decide +kernel
theorem dX7_count_81 : decode cX7_count 81 = .ok (.iconst 0, 1) := by decide +kernel
theorem dX7_count_82 : decode cX7_count 82 = .ok (.invokevirtual 216, 3) := by decide +kernel
theorem dX7_count_85 : decode cX7_count 85 = .ok (.ireturn, 1) := by decide +kernel
theorem dX7_count_86 : decode cX7_count 86 = .ok (.aload_n 0, 1) := by decide +kernel
theorem dX7_count_87 : decode cX7_count 87 = .ok (.getfield 10, 3) := by decide +kernel
theorem dX7_count_90 : decode cX7_count 90 = .ok (.invokevirtual 296, 3) := by decide +kernel
theorem dX7_count_93 : decode cX7_count 93 = .ok (.ireturn, 1) := by decide +kernel
theorem dX7_count_94 : decode cX7_count 94 = .ok (.aload_n 0, 1) := by decide +kernel
theorem dX7_count_95 : decode cX7_count 95 = .ok (.invokevirtual 236, 3) := by decide +kernel
theorem dX7_count_98 : decode cX7_count 98 = .ok (.aload_n 0, 1) := by decide +kernel
theorem dX7_count_99 : decode cX7_count 99 = .ok (.iconst 1, 1) := by decide +kernel
theorem dX7_count_100 : decode cX7_count 100 = .ok (.aload_n 0, 1) := by decide +kernel
theorem dX7_count_101 : decode cX7_count 101 = .ok (.getfield 10, 3) := by decide +kernel
theorem dX7_count_104 : decode cX7_count 104 = .ok (.getfield 115, 3) := by decide +kernel
theorem dX7_count_107 : decode cX7_count 107 = .ok (.ishl, 1) := by decide +kernel
theorem dX7_count_108 : decode cX7_count 108 = .ok (.iconst 1, 1) := by decide +kernel
theorem dX7_count_109 : decode cX7_count 109 = .ok (.isub, 1) := by decide +kernel
theorem dX7_count_110 : decode cX7_count 110 = .ok (.invokevirtual 239, 3) := by decide +kernel
theorem dX7_count_113 : decode cX7_count 113 = .ok (.ireturn, 1) := by decide +kernel
theorem dX7_count_114 : decode cX7_count 114 = .ok (.aload_n 0, 1) := by decide +kernel
theorem dX7_count_115 : decode cX7_count 115 = .ok (.getfield 10, 3) := by decide +kernel
theorem dX7_count_118 : decode cX7_count 118 = .ok (.getfield 179, 3) := by decide +kernel
theorem dX7_count_121 : decode cX7_count 121 = .ok (.getfield 183, 3) := by decide +kernel
theorem dX7_count_124 : decode cX7_count 124 = .ok (.ireturn, 1) := by decide +kernel
theorem dX7_count_125 : decode cX7_count 125 = .ok (.aload_n 0, 1) := by decide +kernel
theorem dX7_count_126 : decode cX7_count 126 = .ok (.getfield 10, 3) := by decide +kernel
theorem dX7_count_129 : decode cX7_count 129 = .ok (.getfield 290, 3) := by decide +kernel
theorem dX7_count_132 : decode cX7_count 132 = .ok (.ireturn, 1) := by decide +kernel
theorem dX7_count_133 : decode cX7_count 133 = .ok (.aload_n 0, 1) := by decide +kernel
theorem dX7_count_134 : decode cX7_count 134 = .ok (.getfield 33, 3) := by decide +kernel
theorem dX7_count_137 : decode cX7_count 137 = .ok (.getfield 252, 3) := by decide +kernel
theorem dX7_count_140 : decode cX7_count 140 = .ok (.ireturn, 1) := by decide +kernel
theorem dX7_count_141 : decode cX7_count 141 = .ok (.aload_n 0, 1) := by decide +kernel
theorem dX7_count_142 : decode cX7_count 142 = .ok (.getfield 10, 3) := by decide +kernel
theorem dX7_count_145 : decode cX7_count 145 = .ok (.getfield 245, 3) := by decide +kernel
theorem dX7_count_148 : decode cX7_count 148 = .ok (.ireturn, 1) := by decide +kernel
theorem dX7_count_149 : decode cX7_count 149 = .ok (.aload_n 0, 1) := by decide +kernel
theorem dX7_count_150 : decode cX7_count 150 = .ok (.iconst 1, 1) := by decide +kernel
theorem dX7_count_151 : decode cX7_count 151 = .ok (.invokevirtual 62, 3) := by decide +kernel
theorem dX7_count_154 : decode cX7_count 154 = .ok (.ireturn, 1) := by decide +kernel
theorem dX7_told_0 : decode cX7_told 0 = .ok (.iload_n 1, 1) := by decide +kernel
theorem dX7_told_1 : decode cX7_told 1 = .ok (.iconst 1, 1) := by decide +kernel
theorem dX7_told_2 : decode cX7_told 2 = .ok (.iconst 5, 1) := by decide +kernel
theorem dX7_told_3 : decode cX7_told 3 = .ok (.invokestatic 58, 3) := by decide +kernel
theorem dX7_told_6 : decode cX7_told 6 = .ok (.ifCond .ne 9, 3) := by decide +kernel
theorem dX7_told_9 : decode cX7_told 9 = .ok (.aload_n 0, 1) := by decide +kernel
theorem dX7_told_10 : decode cX7_told 10 = .ok (.iconst 1, 1) := by decide +kernel
theorem dX7_told_11 : decode cX7_told 11 = .ok (.invokevirtual 62, 3) := by decide +kernel
theorem dX7_told_14 : decode cX7_told 14 = .ok (.ireturn, 1) := by decide +kernel
theorem dX7_told_15 : decode cX7_told 15 = .ok (.aload_n 0, 1) := by decide +kernel
theorem dX7_told_16 : decode cX7_told 16 = .ok (.getfield 43, 3) := by decide +kernel
theorem dX7_told_19 : decode cX7_told 19 = .ok (.iload_n 1, 1) := by decide +kernel
theorem dX7_told_20 : decode cX7_told 20 = .ok (.iaload, 1) := by decide +kernel
theorem dX7_told_21 : decode cX7_told 21 = .ok (.ireturn, 1) := by decide +kernel
theorem dX7_error_0 : decode cX7_error 0 = .ok (.aload_n 0, 1) := by decide +kernel
theorem dX7_error_1 : decode cX7_error 1 = .ok (.getfield 43, 3) := by decide +kernel
theorem dX7_error_4 : decode cX7_error 4 = .ok (.iload_n 1, 1) := by decide +kernel
theorem dX7_error_5 : decode cX7_error 5 = .ok (.dup2, 1) := by decide +kernel
theorem dX7_error_6 : decode cX7_error 6 = .ok (.iaload, 1) := by decide +kernel
theorem dX7_error_7 : decode cX7_error 7 = .ok (.iconst 1, 1) := by decide +kernel
theorem dX7_error_8 : decode cX7_error 8 = .ok (.iadd, 1) := by decide +kernel
theorem dX7_error_9 : decode cX7_error 9 = .ok (.iastore, 1) := by decide +kernel
theorem dX7_error_10 : decode cX7_error 10 = .ok (.ldc_w 299, 3) := by decide +kernel
theorem dX7_error_13 : decode cX7_error 13 = .ok (.iload_n 1, 1) := by decide +kernel
theorem dX7_error_14 : decode cX7_error 14 = .ok (.isub, 1) := by decide +kernel
theorem dX7_error_15 : decode cX7_error 15 = .ok (.ireturn, 1) := by decide +kernel
theorem dX7_isWithin_0 : decode cX7_isWithin 0 = .ok (.iload_n 0, 1) := by decide +kernel
theorem dX7_isWithin_1 : decode cX7_isWithin 1 = .ok (.iload_n 1, 1) := by decide +kernel
theorem dX7_isWithin_2 : decode cX7_isWithin 2 = .ok (.if_icmp .lt 12, 3) := by decide +kernel
theorem dX7_isWithin_5 : decode cX7_isWithin 5 = .ok (.iload_n 0, 1) := by decide +kernel
theorem dX7_isWithin_6 : decode cX7_isWithin 6 = .ok (.iload_n 2, 1) := by decide +kernel
theorem dX7_isWithin_7 : decode cX7_isWithin 7 = .ok (.if_icmp .gt 7, 3) := by decide +kernel
theorem dX7_isWithin_10 : decode cX7_isWithin 10 = .ok (.iconst 1, 1) := by decide +kernel
theorem dX7_isWithin_11 : decode cX7_isWithin 11 = .ok (.goto 4, 3) := by decide +kernel
theorem dX7_isWithin_14 : decode cX7_isWithin 14 = .ok (.iconst 0, 1) := by decide +kernel
theorem dX7_isWithin_15 : decode cX7_isWithin 15 = .ok (.ireturn, 1) := by decide +kernel
theorem dX7_held_0 : decode cX7_held 0 = .ok (.iload_n 1, 1) := by decide +kernel
theorem dX7_held_1 : decode cX7_held 1 = .ok (.iload_n 2, 1) := by decide +kernel
theorem dX7_held_2 : decode cX7_held 2 = .ok (.iload_n 0, 1) := by decide +kernel
theorem dX7_held_3 : decode cX7_held 3 = .ok (.invokestatic 300, 3) := by decide +kernel
theorem dX7_held_6 : decode cX7_held 6 = .ok (.invokestatic 305, 3) := by decide +kernel
theorem dX7_held_9 : decode cX7_held 9 = .ok (.ireturn, 1) := by decide +kernel
theorem dX7_oneIf_0 : decode cX7_oneIf 0 = .ok (.iload_n 0, 1) := by decide +kernel
theorem dX7_oneIf_1 : decode cX7_oneIf 1 = .ok (.ifCond .eq 7, 3) := by decide +kernel
theorem dX7_oneIf_4 : decode cX7_oneIf 4 = .ok (.iconst 1, 1) := by decide +kernel
theorem dX7_oneIf_5 : decode cX7_oneIf 5 = .ok (.goto 4, 3) := by decide +kernel
theorem dX7_oneIf_8 : decode cX7_oneIf 8 = .ok (.iconst 0, 1) := by decide +kernel
theorem dX7_oneIf_9 : decode cX7_oneIf 9 = .ok (.ireturn, 1) := by decide +kernel
theorem dX7_quotient_0 : decode cX7_quotient 0 = .ok (.iload_n 1, 1) := by decide +kernel
theorem dX7_quotient_1 : decode cX7_quotient 1 = .ok (.ifCond .ne 7, 3) := by decide +kernel
theorem dX7_quotient_4 : decode cX7_quotient 4 = .ok (.iconst 0, 1) := by decide +kernel
theorem dX7_quotient_5 : decode cX7_quotient 5 = .ok (.goto 6, 3) := by decide +kernel
theorem dX7_quotient_8 : decode cX7_quotient 8 = .ok (.iload_n 0, 1) := by decide +kernel
theorem dX7_quotient_9 : decode cX7_quotient 9 = .ok (.iload_n 1, 1) := by decide +kernel
theorem dX7_quotient_10 : decode cX7_quotient 10 = .ok (.idiv, 1) := by decide +kernel
theorem dX7_quotient_11 : decode cX7_quotient 11 = .ok (.ireturn, 1) := by decide +kernel
theorem dX7_isPlace_0 : decode cX7_isPlace 0 = .ok (.iload_n 0, 1) := by decide +kernel
theorem dX7_isPlace_1 : decode cX7_isPlace 1 = .ok (.iconst 0, 1) := by decide +kernel
theorem dX7_isPlace_2 : decode cX7_isPlace 2 = .ok (.bipush 19, 2) := by decide +kernel
theorem dX7_isPlace_4 : decode cX7_isPlace 4 = .ok (.invokestatic 58, 3) := by decide +kernel
theorem dX7_isPlace_7 : decode cX7_isPlace 7 = .ok (.ireturn, 1) := by decide +kernel
theorem dX7_isSomePlaces_0 : decode cX7_isSomePlaces 0 = .ok (.iload_n 0, 1) := by decide +kernel
theorem dX7_isSomePlaces_1 : decode cX7_isSomePlaces 1 = .ok (.iconst 1, 1) := by decide +kernel
theorem dX7_isSomePlaces_2 : decode cX7_isSomePlaces 2 = .ok (.ldc 229, 2) := by decide +kernel
theorem dX7_isSomePlaces_4 : decode cX7_isSomePlaces 4 = .ok (.invokestatic 58, 3) := by decide +kernel
theorem dX7_isSomePlaces_7 : decode cX7_isSomePlaces 7 = .ok (.ireturn, 1) := by decide +kernel
theorem dX7_isSide_0 : decode cX7_isSide 0 = .ok (.iload_n 0, 1) := by decide +kernel
theorem dX7_isSide_1 : decode cX7_isSide 1 = .ok (.ifCond .eq 8, 3) := by decide +kernel
theorem dX7_isSide_4 : decode cX7_isSide 4 = .ok (.iload_n 0, 1) := by decide +kernel
theorem dX7_isSide_5 : decode cX7_isSide 5 = .ok (.iconst 1, 1) := by decide +kernel
theorem dX7_isSide_6 : decode cX7_isSide 6 = .ok (.if_icmp .ne 7, 3) := by decide +kernel
theorem dX7_isSide_9 : decode cX7_isSide 9 = .ok (.iconst 1, 1) := by decide +kernel
theorem dX7_isSide_10 : decode cX7_isSide 10 = .ok (.goto 4, 3) := by decide +kernel
theorem dX7_isSide_13 : decode cX7_isSide 13 = .ok (.iconst 0, 1) := by decide +kernel
theorem dX7_isSide_14 : decode cX7_isSide 14 = .ok (.ireturn, 1) := by decide +kernel
theorem dX7_isKindWithNumber_0 : decode cX7_isKindWithNumber 0 = .ok (.iload_n 0, 1) := by decide +kernel
theorem dX7_isKindWithNumber_1 : decode cX7_isKindWithNumber 1 = .ok (.iconst 0, 1) := by decide +kernel
theorem dX7_isKindWithNumber_2 : decode cX7_isKindWithNumber 2 = .ok (.bipush 69, 2) := by decide +kernel
theorem dX7_isKindWithNumber_4 : decode cX7_isKindWithNumber 4 = .ok (.invokestatic 58, 3) := by decide +kernel
theorem dX7_isKindWithNumber_7 : decode cX7_isKindWithNumber 7 = .ok (.ireturn, 1) := by decide +kernel
theorem dX7_isUse_0 : decode cX7_isUse 0 = .ok (.iload_n 0, 1) := by decide +kernel
theorem dX7_isUse_1 : decode cX7_isUse 1 = .ok (.ifCond .eq 8, 3) := by decide +kernel
theorem dX7_isUse_4 : decode cX7_isUse 4 = .ok (.iload_n 0, 1) := by decide +kernel
theorem dX7_isUse_5 : decode cX7_isUse 5 = .ok (.iconst 1, 1) := by decide +kernel
theorem dX7_isUse_6 : decode cX7_isUse 6 = .ok (.if_icmp .ne 7, 3) := by decide +kernel
theorem dX7_isUse_9 : decode cX7_isUse 9 = .ok (.iconst 1, 1) := by decide +kernel
theorem dX7_isUse_10 : decode cX7_isUse 10 = .ok (.goto 4, 3) := by decide +kernel
theorem dX7_isUse_13 : decode cX7_isUse 13 = .ok (.iconst 0, 1) := by decide +kernel
theorem dX7_isUse_14 : decode cX7_isUse 14 = .ok (.ireturn, 1) := by decide +kernel
theorem dX7_isSheet_0 : decode cX7_isSheet 0 = .ok (.iload_n 0, 1) := by decide +kernel
theorem dX7_isSheet_1 : decode cX7_isSheet 1 = .ok (.iconst 0, 1) := by decide +kernel
theorem dX7_isSheet_2 : decode cX7_isSheet 2 = .ok (.iconst 3, 1) := by decide +kernel
theorem dX7_isSheet_3 : decode cX7_isSheet 3 = .ok (.invokestatic 58, 3) := by decide +kernel
theorem dX7_isSheet_6 : decode cX7_isSheet 6 = .ok (.ireturn, 1) := by decide +kernel
theorem dX7_isVillage_0 : decode cX7_isVillage 0 = .ok (.iload_n 1, 1) := by decide +kernel
theorem dX7_isVillage_1 : decode cX7_isVillage 1 = .ok (.iconst 0, 1) := by decide +kernel
theorem dX7_isVillage_2 : decode cX7_isVillage 2 = .ok (.aload_n 0, 1) := by decide +kernel
theorem dX7_isVillage_3 : decode cX7_isVillage 3 = .ok (.getfield 10, 3) := by decide +kernel
theorem dX7_isVillage_6 : decode cX7_isVillage 6 = .ok (.getfield 97, 3) := by decide +kernel
theorem dX7_isVillage_9 : decode cX7_isVillage 9 = .ok (.iconst 1, 1) := by decide +kernel
theorem dX7_isVillage_10 : decode cX7_isVillage 10 = .ok (.isub, 1) := by decide +kernel
theorem dX7_isVillage_11 : decode cX7_isVillage 11 = .ok (.invokestatic 58, 3) := by decide +kernel
theorem dX7_isVillage_14 : decode cX7_isVillage 14 = .ok (.ireturn, 1) := by decide +kernel
theorem dX7_isBottle_0 : decode cX7_isBottle 0 = .ok (.iload_n 1, 1) := by decide +kernel
theorem dX7_isBottle_1 : decode cX7_isBottle 1 = .ok (.iconst 0, 1) := by decide +kernel
theorem dX7_isBottle_2 : decode cX7_isBottle 2 = .ok (.aload_n 0, 1) := by decide +kernel
theorem dX7_isBottle_3 : decode cX7_isBottle 3 = .ok (.getfield 10, 3) := by decide +kernel
theorem dX7_isBottle_6 : decode cX7_isBottle 6 = .ok (.getfield 115, 3) := by decide +kernel
theorem dX7_isBottle_9 : decode cX7_isBottle 9 = .ok (.iconst 1, 1) := by decide +kernel
theorem dX7_isBottle_10 : decode cX7_isBottle 10 = .ok (.isub, 1) := by decide +kernel
theorem dX7_isBottle_11 : decode cX7_isBottle 11 = .ok (.invokestatic 58, 3) := by decide +kernel
theorem dX7_isBottle_14 : decode cX7_isBottle 14 = .ok (.ireturn, 1) := by decide +kernel
theorem dX7_missingBehind_0 : decode cX7_missingBehind 0 = .ok (.aload_n 0, 1) := by decide +kernel
theorem dX7_missingBehind_1 : decode cX7_missingBehind 1 = .ok (.getfield 10, 3) := by decide +kernel
theorem dX7_missingBehind_4 : decode cX7_missingBehind 4 = .ok (.getfield 66, 3) := by decide +kernel
theorem dX7_missingBehind_7 : decode cX7_missingBehind 7 = .ok (.iload_n 1, 1) := by decide +kernel
theorem dX7_missingBehind_8 : decode cX7_missingBehind 8 = .ok (.invokevirtual 78, 3) := by decide +kernel
theorem dX7_missingBehind_11 : decode cX7_missingBehind 11 = .ok (.invokestatic 89, 3) := by decide +kernel
theorem dX7_missingBehind_14 : decode cX7_missingBehind 14 = .ok (.ireturn, 1) := by decide +kernel
theorem dX7_lawGives_0 : decode cX7_lawGives 0 = .ok (.aload_n 0, 1) := by decide +kernel
theorem dX7_lawGives_1 : decode cX7_lawGives 1 = .ok (.getfield 10, 3) := by decide +kernel
theorem dX7_lawGives_4 : decode cX7_lawGives 4 = .ok (.iload_n 1, 1) := by decide +kernel
theorem dX7_lawGives_5 : decode cX7_lawGives 5 = .ok (.invokevirtual 198, 3) := by decide +kernel
theorem dX7_lawGives_8 : decode cX7_lawGives 8 = .ok (.astore 5, 2) := by decide +kernel
theorem dX7_lawGives_10 : decode cX7_lawGives 10 = .ok (.iload_n 1, 1) := by decide +kernel
theorem dX7_lawGives_11 : decode cX7_lawGives 11 = .ok (.ifCond .ne 42, 3) := by decide +kernel
theorem dX7_lawGives_14 : decode cX7_lawGives 14 = .ok (.aload 5, 2) := by decide +kernel
theorem dX7_lawGives_16 : decode cX7_lawGives 16 = .ok (.getfield 183, 3) := by decide +kernel
theorem dX7_lawGives_19 : decode cX7_lawGives 19 = .ok (.ifCond .le 20, 3) := by decide +kernel
theorem dX7_lawGives_22 : decode cX7_lawGives 22 = .ok (.aload_n 0, 1) := by decide +kernel
theorem dX7_lawGives_23 : decode cX7_lawGives 23 = .ok (.getfield 26, 3) := by decide +kernel
theorem dX7_lawGives_26 : decode cX7_lawGives 26 = .ok (.aload 5, 2) := by decide +kernel
theorem dX7_lawGives_28 : decode cX7_lawGives 28 = .ok (.iload_n 1, 1) := by decide +kernel
theorem dX7_lawGives_29 : decode cX7_lawGives 29 = .ok (.iload_n 2, 1) := by decide +kernel
theorem dX7_lawGives_30 : decode cX7_lawGives 30 = .ok (.iload_n 3, 1) := by decide +kernel
theorem dX7_lawGives_31 : decode cX7_lawGives 31 = .ok (.iload 4, 2) := by decide +kernel
theorem dX7_lawGives_33 : decode cX7_lawGives 33 = .ok (.invokevirtual 308, 3) := by decide +kernel
theorem dX7_lawGives_36 : decode cX7_lawGives 36 = .ok (.goto 6, 3) := by decide +kernel
theorem dX7_lawGives_39 : decode cX7_lawGives 39 = .ok (.iconst 3, 1) := by decide +kernel
theorem dX7_lawGives_40 : decode cX7_lawGives 40 = .ok (.iload_n 2, 1) := by decide +kernel
theorem dX7_lawGives_41 : decode cX7_lawGives 41 = .ok (.iadd, 1) := by decide +kernel
theorem dX7_lawGives_42 : decode cX7_lawGives 42 = .ok (.istore 6, 2) := by decide +kernel
theorem dX7_lawGives_44 : decode cX7_lawGives 44 = .ok (.iload 6, 2) := by decide +kernel
theorem dX7_lawGives_46 : decode cX7_lawGives 46 = .ok (.iconst 1, 1) := by decide +kernel
theorem dX7_lawGives_47 : decode cX7_lawGives 47 = .ok (.bipush 99, 2) := by decide +kernel
theorem dX7_lawGives_49 : decode cX7_lawGives 49 = .ok (.invokestatic 312, 3) := by decide +kernel
theorem dX7_lawGives_52 : decode cX7_lawGives 52 = .ok (.ireturn, 1) := by decide +kernel
theorem dX7_lawGives_53 : decode cX7_lawGives 53 = .ok (.aload 5, 2) := by decide +kernel
theorem dX7_lawGives_55 : decode cX7_lawGives 55 = .ok (.getfield 183, 3) := by decide +kernel
theorem dX7_lawGives_58 : decode cX7_lawGives 58 = .ok (.ifCond .le 20, 3) := by decide +kernel
theorem dX7_lawGives_61 : decode cX7_lawGives 61 = .ok (.aload_n 0, 1) := by decide +kernel
theorem dX7_lawGives_62 : decode cX7_lawGives 62 = .ok (.getfield 26, 3) := by decide +kernel
theorem dX7_lawGives_65 : decode cX7_lawGives 65 = .ok (.aload 5, 2) := by decide +kernel
theorem dX7_lawGives_67 : decode cX7_lawGives 67 = .ok (.iload_n 1, 1) := by decide +kernel
theorem dX7_lawGives_68 : decode cX7_lawGives 68 = .ok (.iload_n 2, 1) := by decide +kernel
theorem dX7_lawGives_69 : decode cX7_lawGives 69 = .ok (.iload_n 3, 1) := by decide +kernel
theorem dX7_lawGives_70 : decode cX7_lawGives 70 = .ok (.iload 4, 2) := by decide +kernel
theorem dX7_lawGives_72 : decode cX7_lawGives 72 = .ok (.invokevirtual 308, 3) := by decide +kernel
theorem dX7_lawGives_75 : decode cX7_lawGives 75 = .ok (.goto 8, 3) := by decide +kernel
theorem dX7_lawGives_78 : decode cX7_lawGives 78 = .ok (.iload_n 2, 1) := by decide +kernel
theorem dX7_lawGives_79 : decode cX7_lawGives 79 = .ok (.iconst 2, 1) := by decide +kernel
theorem dX7_lawGives_80 : decode cX7_lawGives 80 = .ok (.imul, 1) := by decide +kernel
theorem dX7_lawGives_81 : decode cX7_lawGives 81 = .ok (.iload_n 3, 1) := by decide +kernel
theorem dX7_lawGives_82 : decode cX7_lawGives 82 = .ok (.iadd, 1) := by decide +kernel
theorem dX7_lawGives_83 : decode cX7_lawGives 83 = .ok (.istore 6, 2) := by decide +kernel
theorem dX7_lawGives_85 : decode cX7_lawGives 85 = .ok (.iload 6, 2) := by decide +kernel
theorem dX7_lawGives_87 : decode cX7_lawGives 87 = .ok (.iconst 0, 1) := by decide +kernel
theorem dX7_lawGives_88 : decode cX7_lawGives 88 = .ok (.sipush 999, 3) := by decide +kernel
theorem dX7_lawGives_91 : decode cX7_lawGives 91 = .ok (.invokestatic 312, 3) := by decide +kernel
theorem dX7_lawGives_94 : decode cX7_lawGives 94 = .ok (.ireturn, 1) := by decide +kernel
theorem dX7_takeOut_0 : decode cX7_takeOut 0 = .ok (.iconst 0, 1) := by decide +kernel
theorem dX7_takeOut_1 : decode cX7_takeOut 1 = .ok (.istore_n 3, 1) := by decide +kernel
theorem dX7_takeOut_2 : decode cX7_takeOut 2 = .ok (.iload_n 3, 1) := by decide +kernel
theorem dX7_takeOut_3 : decode cX7_takeOut 3 = .ok (.bipush 20, 2) := by decide +kernel
theorem dX7_takeOut_5 : decode cX7_takeOut 5 = .ok (.if_icmp .ge 63, 3) := by decide +kernel
theorem dX7_takeOut_8 : decode cX7_takeOut 8 = .ok (.iload_n 1, 1) := by decide +kernel
theorem dX7_takeOut_9 : decode cX7_takeOut 9 = .ok (.iload_n 3, 1) := by decide +kernel
theorem dX7_takeOut_10 : decode cX7_takeOut 10 = .ok (.ishr, 1) := by decide +kernel
theorem dX7_takeOut_11 : decode cX7_takeOut 11 = .ok (.iconst 1, 1) := by decide +kernel
theorem dX7_takeOut_12 : decode cX7_takeOut 12 = .ok (.iand, 1) := by decide +kernel
theorem dX7_takeOut_13 : decode cX7_takeOut 13 = .ok (.ifCond .eq 49, 3) := by decide +kernel
theorem dX7_takeOut_16 : decode cX7_takeOut 16 = .ok (.aload_n 0, 1) := by decide +kernel
theorem dX7_takeOut_17 : decode cX7_takeOut 17 = .ok (.getfield 10, 3) := by decide +kernel
theorem dX7_takeOut_20 : decode cX7_takeOut 20 = .ok (.getfield 66, 3) := by decide +kernel
theorem dX7_takeOut_23 : decode cX7_takeOut 23 = .ok (.getfield 70, 3) := by decide +kernel
theorem dX7_takeOut_26 : decode cX7_takeOut 26 = .ok (.iload_n 3, 1) := by decide +kernel
theorem dX7_takeOut_27 : decode cX7_takeOut 27 = .ok (.iaload, 1) := by decide +kernel
theorem dX7_takeOut_28 : decode cX7_takeOut 28 = .ok (.istore 4, 2) := by decide +kernel
theorem dX7_takeOut_30 : decode cX7_takeOut 30 = .ok (.aload_n 0, 1) := by decide +kernel
theorem dX7_takeOut_31 : decode cX7_takeOut 31 = .ok (.getfield 10, 3) := by decide +kernel
theorem dX7_takeOut_34 : decode cX7_takeOut 34 = .ok (.getfield 66, 3) := by decide +kernel
theorem dX7_takeOut_37 : decode cX7_takeOut 37 = .ok (.getfield 75, 3) := by decide +kernel
theorem dX7_takeOut_40 : decode cX7_takeOut 40 = .ok (.iload_n 3, 1) := by decide +kernel
theorem dX7_takeOut_41 : decode cX7_takeOut 41 = .ok (.aload_n 0, 1) := by decide +kernel
theorem dX7_takeOut_42 : decode cX7_takeOut 42 = .ok (.iconst 0, 1) := by decide +kernel
theorem dX7_takeOut_43 : decode cX7_takeOut 43 = .ok (.iload 4, 2) := by decide +kernel
theorem dX7_takeOut_45 : decode cX7_takeOut 45 = .ok (.iload_n 3, 1) := by decide +kernel
theorem dX7_takeOut_46 : decode cX7_takeOut 46 = .ok (.iload_n 2, 1) := by decide +kernel
theorem dX7_takeOut_47 : decode cX7_takeOut 47 = .ok (.isub, 1) := by decide +kernel
theorem dX7_takeOut_48 : decode cX7_takeOut 48 = .ok (.invokestatic 315, 3) := by decide +kernel
theorem dX7_takeOut_51 : decode cX7_takeOut 51 = .ok (.aload_n 0, 1) := by decide +kernel
theorem dX7_takeOut_52 : decode cX7_takeOut 52 = .ok (.getfield 10, 3) := by decide +kernel
theorem dX7_takeOut_55 : decode cX7_takeOut 55 = .ok (.getfield 210, 3) := by decide +kernel
theorem dX7_takeOut_58 : decode cX7_takeOut 58 = .ok (.invokevirtual 206, 3) := by decide +kernel
theorem dX7_takeOut_61 : decode cX7_takeOut 61 = .ok (.iastore, 1) := by decide +kernel
theorem dX7_takeOut_62 : decode cX7_takeOut 62 = .ok (.iinc 3 1, 3) := by decide +kernel
theorem dX7_takeOut_65 : decode cX7_takeOut 65 = .ok (.goto (-63), 3) := by decide +kernel
theorem dX7_takeOut_68 : decode cX7_takeOut 68 = .ok (.return_, 1) := by decide +kernel
theorem dX7_priceOf_0 : decode cX7_priceOf 0 = .ok (.aload_n 0, 1) := by decide +kernel
theorem dX7_priceOf_1 : decode cX7_priceOf 1 = .ok (.iconst 1, 1) := by decide +kernel
theorem dX7_priceOf_2 : decode cX7_priceOf 2 = .ok (.aload_n 1, 1) := by decide +kernel
theorem dX7_priceOf_3 : decode cX7_priceOf 3 = .ok (.invokevirtual 158, 3) := by decide +kernel
theorem dX7_priceOf_6 : decode cX7_priceOf 6 = .ok (.invokestatic 89, 3) := by decide +kernel
theorem dX7_priceOf_9 : decode cX7_priceOf 9 = .ok (.aload_n 1, 1) := by decide +kernel
theorem dX7_priceOf_10 : decode cX7_priceOf 10 = .ok (.invokevirtual 162, 3) := by decide +kernel
theorem dX7_priceOf_13 : decode cX7_priceOf 13 = .ok (.aload_n 1, 1) := by decide +kernel
theorem dX7_priceOf_14 : decode cX7_priceOf 14 = .ok (.getfield 147, 3) := by decide +kernel
theorem dX7_priceOf_17 : decode cX7_priceOf 17 = .ok (.invokevirtual 206, 3) := by decide +kernel
theorem dX7_priceOf_20 : decode cX7_priceOf 20 = .ok (.istore_n 2, 1) := by decide +kernel
theorem dX7_priceOf_21 : decode cX7_priceOf 21 = .ok (.aload_n 1, 1) := by decide +kernel
theorem dX7_priceOf_22 : decode cX7_priceOf 22 = .ok (.iload_n 2, 1) := by decide +kernel
theorem dX7_priceOf_23 : decode cX7_priceOf 23 = .ok (.invokevirtual 318, 3) := by decide +kernel
theorem dX7_priceOf_26 : decode cX7_priceOf 26 = .ok (.ireturn, 1) := by decide +kernel
theorem dX7_workOutLefts_0 : decode cX7_workOutLefts 0 = .ok (.iconst 0, 1) := by decide +kernel
theorem dX7_workOutLefts_1 : decode cX7_workOutLefts 1 = .ok (.istore_n 1, 1) := by decide +kernel
theorem dX7_workOutLefts_2 : decode cX7_workOutLefts 2 = .ok (.iload_n 1, 1) := by decide +kernel
theorem dX7_workOutLefts_3 : decode cX7_workOutLefts 3 = .ok (.aload_n 0, 1) := by decide +kernel
theorem dX7_workOutLefts_4 : decode cX7_workOutLefts 4 = .ok (.getfield 10, 3) := by decide +kernel
theorem dX7_workOutLefts_7 : decode cX7_workOutLefts 7 = .ok (.getfield 115, 3) := by decide +kernel
theorem dX7_workOutLefts_10 : decode cX7_workOutLefts 10 = .ok (.if_icmp .ge 27, 3) := by decide +kernel
theorem dX7_workOutLefts_13 : decode cX7_workOutLefts 13 = .ok (.aload_n 0, 1) := by decide +kernel
theorem dX7_workOutLefts_14 : decode cX7_workOutLefts 14 = .ok (.getfield 47, 3) := by decide +kernel
theorem dX7_workOutLefts_17 : decode cX7_workOutLefts 17 = .ok (.iload_n 1, 1) := by decide +kernel
theorem dX7_workOutLefts_18 : decode cX7_workOutLefts 18 = .ok (.aload_n 0, 1) := by decide +kernel
theorem dX7_workOutLefts_19 : decode cX7_workOutLefts 19 = .ok (.getfield 10, 3) := by decide +kernel
theorem dX7_workOutLefts_22 : decode cX7_workOutLefts 22 = .ok (.getfield 122, 3) := by decide +kernel
theorem dX7_workOutLefts_25 : decode cX7_workOutLefts 25 = .ok (.iload_n 1, 1) := by decide +kernel
theorem dX7_workOutLefts_26 : decode cX7_workOutLefts 26 = .ok (.aaload, 1) := by decide +kernel
theorem dX7_workOutLefts_27 : decode cX7_workOutLefts 27 = .ok (.invokevirtual 158, 3) := by decide +kernel
theorem dX7_workOutLefts_30 : decode cX7_workOutLefts 30 = .ok (.iastore, 1) := by decide +kernel
theorem dX7_workOutLefts_31 : decode cX7_workOutLefts 31 = .ok (.iinc 1 1, 3) := by decide +kernel
theorem dX7_workOutLefts_34 : decode cX7_workOutLefts 34 = .ok (.goto (-32), 3) := by decide +kernel
theorem dX7_workOutLefts_37 : decode cX7_workOutLefts 37 = .ok (.return_, 1) := by decide +kernel
theorem dX7_workOutPrices_0 : decode cX7_workOutPrices 0 = .ok (.iconst 0, 1) := by decide +kernel
theorem dX7_workOutPrices_1 : decode cX7_workOutPrices 1 = .ok (.istore_n 1, 1) := by decide +kernel
theorem dX7_workOutPrices_2 : decode cX7_workOutPrices 2 = .ok (.iload_n 1, 1) := by decide +kernel
theorem dX7_workOutPrices_3 : decode cX7_workOutPrices 3 = .ok (.aload_n 0, 1) := by decide +kernel
theorem dX7_workOutPrices_4 : decode cX7_workOutPrices 4 = .ok (.getfield 10, 3) := by decide +kernel
theorem dX7_workOutPrices_7 : decode cX7_workOutPrices 7 = .ok (.getfield 115, 3) := by decide +kernel
theorem dX7_workOutPrices_10 : decode cX7_workOutPrices 10 = .ok (.if_icmp .ge 28, 3) := by decide +kernel
theorem dX7_workOutPrices_13 : decode cX7_workOutPrices 13 = .ok (.aload_n 0, 1) := by decide +kernel
theorem dX7_workOutPrices_14 : decode cX7_workOutPrices 14 = .ok (.getfield 50, 3) := by decide +kernel
theorem dX7_workOutPrices_17 : decode cX7_workOutPrices 17 = .ok (.iload_n 1, 1) := by decide +kernel
theorem dX7_workOutPrices_18 : decode cX7_workOutPrices 18 = .ok (.aload_n 0, 1) := by decide +kernel
theorem dX7_workOutPrices_19 : decode cX7_workOutPrices 19 = .ok (.aload_n 0, 1) := by decide +kernel
theorem dX7_workOutPrices_20 : decode cX7_workOutPrices 20 = .ok (.getfield 10, 3) := by decide +kernel
theorem dX7_workOutPrices_23 : decode cX7_workOutPrices 23 = .ok (.getfield 122, 3) := by decide +kernel
theorem dX7_workOutPrices_26 : decode cX7_workOutPrices 26 = .ok (.iload_n 1, 1) := by decide +kernel
theorem dX7_workOutPrices_27 : decode cX7_workOutPrices 27 = .ok (.aaload, 1) := by decide +kernel
theorem dX7_workOutPrices_28 : decode cX7_workOutPrices 28 = .ok (.invokevirtual 165, 3) := by decide +kernel
theorem dX7_workOutPrices_31 : decode cX7_workOutPrices 31 = .ok (.iastore, 1) := by decide +kernel
theorem dX7_workOutPrices_32 : decode cX7_workOutPrices 32 = .ok (.iinc 1 1, 3) := by decide +kernel
theorem dX7_workOutPrices_35 : decode cX7_workOutPrices 35 = .ok (.goto (-33), 3) := by decide +kernel
theorem dX7_workOutPrices_38 : decode cX7_workOutPrices 38 = .ok (.return_, 1) := by decide +kernel
theorem dX7_leftInAny_0 : decode cX7_leftInAny 0 = .ok (.iconst 0, 1) := by decide +kernel
theorem dX7_leftInAny_1 : decode cX7_leftInAny 1 = .ok (.istore_n 2, 1) := by decide +kernel
theorem dX7_leftInAny_2 : decode cX7_leftInAny 2 = .ok (.iconst 0, 1) := by decide +kernel
theorem dX7_leftInAny_3 : decode cX7_leftInAny 3 = .ok (.istore_n 3, 1) := by decide +kernel
theorem dX7_leftInAny_4 : decode cX7_leftInAny 4 = .ok (.iload_n 3, 1) := by decide +kernel
theorem dX7_leftInAny_5 : decode cX7_leftInAny 5 = .ok (.aload_n 0, 1) := by decide +kernel
theorem dX7_leftInAny_6 : decode cX7_leftInAny 6 = .ok (.getfield 10, 3) := by decide +kernel
theorem dX7_leftInAny_9 : decode cX7_leftInAny 9 = .ok (.getfield 115, 3) := by decide +kernel
theorem dX7_leftInAny_12 : decode cX7_leftInAny 12 = .ok (.if_icmp .ge 26, 3) := by decide +kernel
theorem dX7_leftInAny_15 : decode cX7_leftInAny 15 = .ok (.iload_n 1, 1) := by decide +kernel
theorem dX7_leftInAny_16 : decode cX7_leftInAny 16 = .ok (.iload_n 3, 1) := by decide +kernel
theorem dX7_leftInAny_17 : decode cX7_leftInAny 17 = .ok (.ishr, 1) := by decide +kernel
theorem dX7_leftInAny_18 : decode cX7_leftInAny 18 = .ok (.iconst 1, 1) := by decide +kernel
theorem dX7_leftInAny_19 : decode cX7_leftInAny 19 = .ok (.iand, 1) := by decide +kernel
theorem dX7_leftInAny_20 : decode cX7_leftInAny 20 = .ok (.ifCond .eq 12, 3) := by decide +kernel
theorem dX7_leftInAny_23 : decode cX7_leftInAny 23 = .ok (.iload_n 2, 1) := by decide +kernel
theorem dX7_leftInAny_24 : decode cX7_leftInAny 24 = .ok (.aload_n 0, 1) := by decide +kernel
theorem dX7_leftInAny_25 : decode cX7_leftInAny 25 = .ok (.getfield 47, 3) := by decide +kernel
theorem dX7_leftInAny_28 : decode cX7_leftInAny 28 = .ok (.iload_n 3, 1) := by decide +kernel
theorem dX7_leftInAny_29 : decode cX7_leftInAny 29 = .ok (.iaload, 1) := by decide +kernel
theorem dX7_leftInAny_30 : decode cX7_leftInAny 30 = .ok (.ior, 1) := by decide +kernel
theorem dX7_leftInAny_31 : decode cX7_leftInAny 31 = .ok (.istore_n 2, 1) := by decide +kernel
theorem dX7_leftInAny_32 : decode cX7_leftInAny 32 = .ok (.iinc 3 1, 3) := by decide +kernel
theorem dX7_leftInAny_35 : decode cX7_leftInAny 35 = .ok (.goto (-31), 3) := by decide +kernel
theorem dX7_leftInAny_38 : decode cX7_leftInAny 38 = .ok (.iload_n 2, 1) := by decide +kernel
theorem dX7_leftInAny_39 : decode cX7_leftInAny 39 = .ok (.ireturn, 1) := by decide +kernel
theorem dX7_isApart_0 : decode cX7_isApart 0 = .ok (.iconst 0, 1) := by decide +kernel
theorem dX7_isApart_1 : decode cX7_isApart 1 = .ok (.istore_n 2, 1) := by decide +kernel
theorem dX7_isApart_2 : decode cX7_isApart 2 = .ok (.iconst 0, 1) := by decide +kernel
theorem dX7_isApart_3 : decode cX7_isApart 3 = .ok (.istore_n 3, 1) := by decide +kernel
theorem dX7_isApart_4 : decode cX7_isApart 4 = .ok (.iload_n 3, 1) := by decide +kernel
theorem dX7_isApart_5 : decode cX7_isApart 5 = .ok (.aload_n 0, 1) := by decide +kernel
theorem dX7_isApart_6 : decode cX7_isApart 6 = .ok (.getfield 10, 3) := by decide +kernel
theorem dX7_isApart_9 : decode cX7_isApart 9 = .ok (.getfield 115, 3) := by decide +kernel
theorem dX7_isApart_12 : decode cX7_isApart 12 = .ok (.if_icmp .ge 39, 3) := by decide +kernel
theorem dX7_isApart_15 : decode cX7_isApart 15 = .ok (.iload_n 1, 1) := by decide +kernel
theorem dX7_isApart_16 : decode cX7_isApart 16 = .ok (.iload_n 3, 1) := by decide +kernel
theorem dX7_isApart_17 : decode cX7_isApart 17 = .ok (.ishr, 1) := by decide +kernel
theorem dX7_isApart_18 : decode cX7_isApart 18 = .ok (.iconst 1, 1) := by decide +kernel
theorem dX7_isApart_19 : decode cX7_isApart 19 = .ok (.iand, 1) := by decide +kernel
theorem dX7_isApart_20 : decode cX7_isApart 20 = .ok (.ifCond .eq 25, 3) := by decide +kernel
theorem dX7_isApart_23 : decode cX7_isApart 23 = .ok (.iload_n 2, 1) := by decide +kernel
theorem dX7_isApart_24 : decode cX7_isApart 24 = .ok (.aload_n 0, 1) := by decide +kernel
theorem dX7_isApart_25 : decode cX7_isApart 25 = .ok (.getfield 47, 3) := by decide +kernel
theorem dX7_isApart_28 : decode cX7_isApart 28 = .ok (.iload_n 3, 1) := by decide +kernel
theorem dX7_isApart_29 : decode cX7_isApart 29 = .ok (.iaload, 1) := by decide +kernel
theorem dX7_isApart_30 : decode cX7_isApart 30 = .ok (.iand, 1) := by decide +kernel
theorem dX7_isApart_31 : decode cX7_isApart 31 = .ok (.ifCond .eq 5, 3) := by decide +kernel
theorem dX7_isApart_34 : decode cX7_isApart 34 = .ok (.iconst 0, 1) := by decide +kernel
theorem dX7_isApart_35 : decode cX7_isApart 35 = .ok (.ireturn, 1) := by decide +kernel
theorem dX7_isApart_36 : decode cX7_isApart 36 = .ok (.iload_n 2, 1) := by decide +kernel
theorem dX7_isApart_37 : decode cX7_isApart 37 = .ok (.aload_n 0, 1) := by decide +kernel
theorem dX7_isApart_38 : decode cX7_isApart 38 = .ok (.getfield 47, 3) := by decide +kernel
theorem dX7_isApart_41 : decode cX7_isApart 41 = .ok (.iload_n 3, 1) := by decide +kernel
theorem dX7_isApart_42 : decode cX7_isApart 42 = .ok (.iaload, 1) := by decide +kernel
theorem dX7_isApart_43 : decode cX7_isApart 43 = .ok (.ior, 1) := by decide +kernel
theorem dX7_isApart_44 : decode cX7_isApart 44 = .ok (.istore_n 2, 1) := by decide +kernel
theorem dX7_isApart_45 : decode cX7_isApart 45 = .ok (.iinc 3 1, 3) := by decide +kernel
theorem dX7_isApart_48 : decode cX7_isApart 48 = .ok (.goto (-44), 3) := by decide +kernel
theorem dX7_isApart_51 : decode cX7_isApart 51 = .ok (.iconst 1, 1) := by decide +kernel
theorem dX7_isApart_52 : decode cX7_isApart 52 = .ok (.ireturn, 1) := by decide +kernel
theorem dX7_priceTogether_0 : decode cX7_priceTogether 0 = .ok (.iconst 0, 1) := by decide +kernel
theorem dX7_priceTogether_1 : decode cX7_priceTogether 1 = .ok (.istore_n 2, 1) := by decide +kernel
theorem dX7_priceTogether_2 : decode cX7_priceTogether 2 = .ok (.iconst 0, 1) := by decide +kernel
theorem dX7_priceTogether_3 : decode cX7_priceTogether 3 = .ok (.istore_n 3, 1) := by decide +kernel
theorem dX7_priceTogether_4 : decode cX7_priceTogether 4 = .ok (.iload_n 3, 1) := by decide +kernel
theorem dX7_priceTogether_5 : decode cX7_priceTogether 5 = .ok (.aload_n 0, 1) := by decide +kernel
theorem dX7_priceTogether_6 : decode cX7_priceTogether 6 = .ok (.getfield 10, 3) := by decide +kernel
theorem dX7_priceTogether_9 : decode cX7_priceTogether 9 = .ok (.getfield 115, 3) := by decide +kernel
theorem dX7_priceTogether_12 : decode cX7_priceTogether 12 = .ok (.if_icmp .ge 26, 3) := by decide +kernel
theorem dX7_priceTogether_15 : decode cX7_priceTogether 15 = .ok (.iload_n 1, 1) := by decide +kernel
theorem dX7_priceTogether_16 : decode cX7_priceTogether 16 = .ok (.iload_n 3, 1) := by decide +kernel
theorem dX7_priceTogether_17 : decode cX7_priceTogether 17 = .ok (.ishr, 1) := by decide +kernel
theorem dX7_priceTogether_18 : decode cX7_priceTogether 18 = .ok (.iconst 1, 1) := by decide +kernel
theorem dX7_priceTogether_19 : decode cX7_priceTogether 19 = .ok (.iand, 1) := by decide +kernel
theorem dX7_priceTogether_20 : decode cX7_priceTogether 20 = .ok (.ifCond .eq 12, 3) := by decide +kernel
theorem dX7_priceTogether_23 : decode cX7_priceTogether 23 = .ok (.iload_n 2, 1) := by decide +kernel
theorem dX7_priceTogether_24 : decode cX7_priceTogether 24 = .ok (.aload_n 0, 1) := by decide +kernel
theorem dX7_priceTogether_25 : decode cX7_priceTogether 25 = .ok (.getfield 50, 3) := by decide +kernel
theorem dX7_priceTogether_28 : decode cX7_priceTogether 28 = .ok (.iload_n 3, 1) := by decide +kernel
theorem dX7_priceTogether_29 : decode cX7_priceTogether 29 = .ok (.iaload, 1) := by decide +kernel
theorem dX7_priceTogether_30 : decode cX7_priceTogether 30 = .ok (.iadd, 1) := by decide +kernel
theorem dX7_priceTogether_31 : decode cX7_priceTogether 31 = .ok (.istore_n 2, 1) := by decide +kernel
theorem dX7_priceTogether_32 : decode cX7_priceTogether 32 = .ok (.iinc 3 1, 3) := by decide +kernel
theorem dX7_priceTogether_35 : decode cX7_priceTogether 35 = .ok (.goto (-31), 3) := by decide +kernel
theorem dX7_priceTogether_38 : decode cX7_priceTogether 38 = .ok (.iload_n 2, 1) := by decide +kernel
theorem dX7_priceTogether_39 : decode cX7_priceTogether 39 = .ok (.ireturn, 1) := by decide +kernel
theorem dX8_init_0 : decode cX8_init 0 = .ok (.aload_n 0, 1) := by decide +kernel
theorem dX8_init_1 : decode cX8_init 1 = .ok (.invokespecial 3, 3) := by decide +kernel
theorem dX8_init_4 : decode cX8_init 4 = .ok (.aload_n 0, 1) := by decide +kernel
theorem dX8_init_5 : decode cX8_init 5 = .ok (.sipush 371, 3) := by decide +kernel
theorem dX8_init_8 : decode cX8_init 8 = .ok (.newarray .int, 2) := by decide +kernel
theorem dX8_init_10 : decode cX8_init 10 = .ok (.putfield 9, 3) := by decide +kernel
theorem dX8_init_13 : decode cX8_init 13 = .ok (.aload_n 0, 1) := by decide +kernel
theorem dX8_init_14 : decode cX8_init 14 = .ok (.sipush 371, 3) := by decide +kernel
theorem dX8_init_17 : decode cX8_init 17 = .ok (.newarray .int, 2) := by decide +kernel
theorem dX8_init_19 : decode cX8_init 19 = .ok (.putfield 13, 3) := by decide +kernel
theorem dX8_init_22 : decode cX8_init 22 = .ok (.aload_n 0, 1) := by decide +kernel
theorem dX8_init_23 : decode cX8_init 23 = .ok (.sipush 371, 3) := by decide +kernel
theorem dX8_init_26 : decode cX8_init 26 = .ok (.newarray .int, 2) := by decide +kernel
theorem dX8_init_28 : decode cX8_init 28 = .ok (.putfield 16, 3) := by decide +kernel
theorem dX8_init_31 : decode cX8_init 31 = .ok (.aload_n 0, 1) := by decide +kernel
theorem dX8_init_32 : decode cX8_init 32 = .ok (.bipush 6, 2) := by decide +kernel
theorem dX8_init_34 : decode cX8_init 34 = .ok (.newarray .int, 2) := by decide +kernel
theorem dX8_init_36 : decode cX8_init 36 = .ok (.putfield 19, 3) := by decide +kernel
theorem dX8_init_39 : decode cX8_init 39 = .ok (.aload_n 0, 1) := by decide +kernel
theorem dX8_init_40 : decode cX8_init 40 = .ok (.bipush 50, 2) := by decide +kernel
theorem dX8_init_42 : decode cX8_init 42 = .ok (.newarray .int, 2) := by decide +kernel
theorem dX8_init_44 : decode cX8_init 44 = .ok (.putfield 22, 3) := by decide +kernel
theorem dX8_init_47 : decode cX8_init 47 = .ok (.aload_n 0, 1) := by decide +kernel
theorem dX8_init_48 : decode cX8_init 48 = .ok (.bipush 50, 2) := by decide +kernel
theorem dX8_init_50 : decode cX8_init 50 = .ok (.newarray .int, 2) := by decide +kernel
theorem dX8_init_52 : decode cX8_init 52 = .ok (.putfield 25, 3) := by decide +kernel
theorem dX8_init_55 : decode cX8_init 55 = .ok (.aload_n 0, 1) := by decide +kernel
theorem dX8_init_56 : decode cX8_init 56 = .ok (.iconst 3, 1) := by decide +kernel
theorem dX8_init_57 : decode cX8_init 57 = .ok (.newarray .int, 2) := by decide +kernel
theorem dX8_init_59 : decode cX8_init 59 = .ok (.putfield 28, 3) := by decide +kernel
theorem dX8_init_62 : decode cX8_init 62 = .ok (.aload_n 0, 1) := by decide +kernel
theorem dX8_init_63 : decode cX8_init 63 = .ok (.bipush 50, 2) := by decide +kernel
theorem dX8_init_65 : decode cX8_init 65 = .ok (.newarray .int, 2) := by decide +kernel
theorem dX8_init_67 : decode cX8_init 67 = .ok (.putfield 31, 3) := by decide +kernel
theorem dX8_init_70 : decode cX8_init 70 = .ok (.aload_n 0, 1) := by decide +kernel
theorem dX8_init_71 : decode cX8_init 71 = .ok (.bipush 40, 2) := by decide +kernel
theorem dX8_init_73 : decode cX8_init 73 = .ok (.newarray .int, 2) := by decide +kernel
theorem dX8_init_75 : decode cX8_init 75 = .ok (.putfield 34, 3) := by decide +kernel
theorem dX8_init_78 : decode cX8_init 78 = .ok (.aload_n 0, 1) := by decide +kernel
theorem dX8_init_79 : decode cX8_init 79 = .ok (.iconst 4, 1) := by decide +kernel
theorem dX8_init_80 : decode cX8_init 80 = .ok (.newarray .int, 2) := by decide +kernel
theorem dX8_init_82 : decode cX8_init 82 = .ok (.putfield 37, 3) := by decide +kernel
theorem dX8_init_85 : decode cX8_init 85 = .ok (.aload_n 0, 1) := by decide +kernel
theorem dX8_init_86 : decode cX8_init 86 = .ok (.iconst 4, 1) := by decide +kernel
theorem dX8_init_87 : decode cX8_init 87 = .ok (.newarray .int, 2) := by decide +kernel
theorem dX8_init_89 : decode cX8_init 89 = .ok (.putfield 40, 3) := by decide +kernel
theorem dX8_init_92 : decode cX8_init 92 = .ok (.aload_n 0, 1) := by decide +kernel
theorem dX8_init_93 : decode cX8_init 93 = .ok (.sipush 160, 3) := by decide +kernel
theorem dX8_init_96 : decode cX8_init 96 = .ok (.newarray .int, 2) := by decide +kernel
theorem dX8_init_98 : decode cX8_init 98 = .ok (.putfield 43, 3) := by decide +kernel
theorem dX8_init_101 : decode cX8_init 101 = .ok (.aload_n 0, 1) := by decide +kernel
theorem dX8_init_102 : decode cX8_init 102 = .ok (.getfield 9, 3) := by decide +kernel
theorem dX8_init_105 : decode cX8_init 105 = .ok (.iconst 1, 1) := by decide +kernel
theorem dX8_init_106 : decode cX8_init 106 = .ok (.iconst 1, 1) := by decide +kernel
theorem dX8_init_107 : decode cX8_init 107 = .ok (.iastore, 1) := by decide +kernel
theorem dX8_init_108 : decode cX8_init 108 = .ok (.iconst 0, 1) := by decide +kernel
theorem dX8_init_109 : decode cX8_init 109 = .ok (.istore_n 1, 1) := by decide +kernel
theorem dX8_init_110 : decode cX8_init 110 = .ok (.iload_n 1, 1) := by decide +kernel
theorem dX8_init_111 : decode cX8_init 111 = .ok (.bipush 20, 2) := by decide +kernel
theorem dX8_init_113 : decode cX8_init 113 = .ok (.if_icmp .ge 19, 3) := by decide +kernel
theorem dX8_init_116 : decode cX8_init 116 = .ok (.aload_n 0, 1) := by decide +kernel
theorem dX8_init_117 : decode cX8_init 117 = .ok (.getfield 9, 3) := by decide +kernel
theorem dX8_init_120 : decode cX8_init 120 = .ok (.bipush 11, 2) := by decide +kernel
theorem dX8_init_122 : decode cX8_init 122 = .ok (.iload_n 1, 1) := by decide +kernel
theorem dX8_init_123 : decode cX8_init 123 = .ok (.iadd, 1) := by decide +kernel
theorem dX8_init_124 : decode cX8_init 124 = .ok (.iconst 5, 1) := by decide +kernel
theorem dX8_init_125 : decode cX8_init 125 = .ok (.iastore, 1) := by decide +kernel
theorem dX8_init_126 : decode cX8_init 126 = .ok (.iinc 1 1, 3) := by decide +kernel
theorem dX8_init_129 : decode cX8_init 129 = .ok (.goto (-19), 3) := by decide +kernel
theorem dX8_init_132 : decode cX8_init 132 = .ok (.return_, 1) := by decide +kernel
theorem dX8_error_0 : decode cX8_error 0 = .ok (.aload_n 0, 1) := by decide +kernel
theorem dX8_error_1 : decode cX8_error 1 = .ok (.getfield 19, 3) := by decide +kernel
theorem dX8_error_4 : decode cX8_error 4 = .ok (.ldc 46, 2) := by decide +kernel
theorem dX8_error_6 : decode cX8_error 6 = .ok (.iload_n 1, 1) := by decide +kernel
theorem dX8_error_7 : decode cX8_error 7 = .ok (.isub, 1) := by decide +kernel
theorem dX8_error_8 : decode cX8_error 8 = .ok (.dup2, 1) := by decide +kernel
theorem dX8_error_9 : decode cX8_error 9 = .ok (.iaload, 1) := by decide +kernel
theorem dX8_error_10 : decode cX8_error 10 = .ok (.iconst 1, 1) := by decide +kernel
theorem dX8_error_11 : decode cX8_error 11 = .ok (.iadd, 1) := by decide +kernel
theorem dX8_error_12 : decode cX8_error 12 = .ok (.iastore, 1) := by decide +kernel
theorem dX8_error_13 : decode cX8_error 13 = .ok (.iload_n 1, 1) := by decide +kernel
theorem dX8_error_14 : decode cX8_error 14 = .ok (.ireturn, 1) := by decide +kernel
theorem dX8_in_0 : decode cX8_in 0 = .ok (.iload_n 0, 1) := by decide +kernel
theorem dX8_in_1 : decode cX8_in 1 = .ok (.iload_n 1, 1) := by decide +kernel
theorem dX8_in_2 : decode cX8_in 2 = .ok (.if_icmp .lt 12, 3) := by decide +kernel
theorem dX8_in_5 : decode cX8_in 5 = .ok (.iload_n 0, 1) := by decide +kernel
theorem dX8_in_6 : decode cX8_in 6 = .ok (.iload_n 2, 1) := by decide +kernel
theorem dX8_in_7 : decode cX8_in 7 = .ok (.if_icmp .gt 7, 3) := by decide +kernel
theorem dX8_in_10 : decode cX8_in 10 = .ok (.iconst 1, 1) := by decide +kernel
theorem dX8_in_11 : decode cX8_in 11 = .ok (.goto 4, 3) := by decide +kernel
theorem dX8_in_14 : decode cX8_in 14 = .ok (.iconst 0, 1) := by decide +kernel
theorem dX8_in_15 : decode cX8_in 15 = .ok (.ireturn, 1) := by decide +kernel
theorem dX8_held_0 : decode cX8_held 0 = .ok (.iload_n 0, 1) := by decide +kernel
theorem dX8_held_1 : decode cX8_held 1 = .ok (.iload_n 1, 1) := by decide +kernel
theorem dX8_held_2 : decode cX8_held 2 = .ok (.if_icmp .ge 7, 3) := by decide +kernel
theorem dX8_held_5 : decode cX8_held 5 = .ok (.iload_n 1, 1) := by decide +kernel
theorem dX8_held_6 : decode cX8_held 6 = .ok (.goto 13, 3) := by decide +kernel
theorem dX8_held_9 : decode cX8_held 9 = .ok (.iload_n 0, 1) := by decide +kernel
theorem dX8_held_10 : decode cX8_held 10 = .ok (.iload_n 2, 1) := by decide +kernel
theorem dX8_held_11 : decode cX8_held 11 = .ok (.if_icmp .le 7, 3) := by decide +kernel
theorem dX8_held_14 : decode cX8_held 14 = .ok (.iload_n 2, 1) := by decide +kernel
theorem dX8_held_15 : decode cX8_held 15 = .ok (.goto 4, 3) := by decide +kernel
theorem dX8_held_18 : decode cX8_held 18 = .ok (.iload_n 0, 1) := by decide +kernel
theorem dX8_held_19 : decode cX8_held 19 = .ok (.ireturn, 1) := by decide +kernel
theorem dX8_copyAll_0 : decode cX8_copyAll 0 = .ok (.iconst 0, 1) := by decide +kernel
theorem dX8_copyAll_1 : decode cX8_copyAll 1 = .ok (.istore_n 2, 1) := by decide +kernel
theorem dX8_copyAll_2 : decode cX8_copyAll 2 = .ok (.iload_n 2, 1) := by decide +kernel
theorem dX8_copyAll_3 : decode cX8_copyAll 3 = .ok (.sipush 371, 3) := by decide +kernel
theorem dX8_copyAll_6 : decode cX8_copyAll 6 = .ok (.if_icmp .ge 15, 3) := by decide +kernel
theorem dX8_copyAll_9 : decode cX8_copyAll 9 = .ok (.aload_n 1, 1) := by decide +kernel
theorem dX8_copyAll_10 : decode cX8_copyAll 10 = .ok (.iload_n 2, 1) := by decide +kernel
theorem dX8_copyAll_11 : decode cX8_copyAll 11 = .ok (.aload_n 0, 1) := by decide +kernel
theorem dX8_copyAll_12 : decode cX8_copyAll 12 = .ok (.iload_n 2, 1) := by decide +kernel
theorem dX8_copyAll_13 : decode cX8_copyAll 13 = .ok (.iaload, 1) := by decide +kernel
theorem dX8_copyAll_14 : decode cX8_copyAll 14 = .ok (.iastore, 1) := by decide +kernel
theorem dX8_copyAll_15 : decode cX8_copyAll 15 = .ok (.iinc 2 1, 3) := by decide +kernel
theorem dX8_copyAll_18 : decode cX8_copyAll 18 = .ok (.goto (-16), 3) := by decide +kernel
theorem dX8_copyAll_21 : decode cX8_copyAll 21 = .ok (.return_, 1) := by decide +kernel
theorem dX8_isPlace_0 : decode cX8_isPlace 0 = .ok (.iload_n 0, 1) := by decide +kernel
theorem dX8_isPlace_1 : decode cX8_isPlace 1 = .ok (.iconst 0, 1) := by decide +kernel
theorem dX8_isPlace_2 : decode cX8_isPlace 2 = .ok (.bipush 19, 2) := by decide +kernel
theorem dX8_isPlace_4 : decode cX8_isPlace 4 = .ok (.invokestatic 47, 3) := by decide +kernel
theorem dX8_isPlace_7 : decode cX8_isPlace 7 = .ok (.ireturn, 1) := by decide +kernel
theorem dX8_isVillage_0 : decode cX8_isVillage 0 = .ok (.iload_n 1, 1) := by decide +kernel
theorem dX8_isVillage_1 : decode cX8_isVillage 1 = .ok (.iconst 0, 1) := by decide +kernel
theorem dX8_isVillage_2 : decode cX8_isVillage 2 = .ok (.aload_n 0, 1) := by decide +kernel
theorem dX8_isVillage_3 : decode cX8_isVillage 3 = .ok (.getfield 9, 3) := by decide +kernel
theorem dX8_isVillage_6 : decode cX8_isVillage 6 = .ok (.iconst 2, 1) := by decide +kernel
theorem dX8_isVillage_7 : decode cX8_isVillage 7 = .ok (.iaload, 1) := by decide +kernel
theorem dX8_isVillage_8 : decode cX8_isVillage 8 = .ok (.iconst 1, 1) := by decide +kernel
theorem dX8_isVillage_9 : decode cX8_isVillage 9 = .ok (.isub, 1) := by decide +kernel
theorem dX8_isVillage_10 : decode cX8_isVillage 10 = .ok (.invokestatic 47, 3) := by decide +kernel
theorem dX8_isVillage_13 : decode cX8_isVillage 13 = .ok (.ireturn, 1) := by decide +kernel
theorem dX8_isBottle_0 : decode cX8_isBottle 0 = .ok (.iload_n 1, 1) := by decide +kernel
theorem dX8_isBottle_1 : decode cX8_isBottle 1 = .ok (.iconst 0, 1) := by decide +kernel
theorem dX8_isBottle_2 : decode cX8_isBottle 2 = .ok (.aload_n 0, 1) := by decide +kernel
theorem dX8_isBottle_3 : decode cX8_isBottle 3 = .ok (.getfield 9, 3) := by decide +kernel
theorem dX8_isBottle_6 : decode cX8_isBottle 6 = .ok (.iconst 3, 1) := by decide +kernel
theorem dX8_isBottle_7 : decode cX8_isBottle 7 = .ok (.iaload, 1) := by decide +kernel
theorem dX8_isBottle_8 : decode cX8_isBottle 8 = .ok (.iconst 1, 1) := by decide +kernel
theorem dX8_isBottle_9 : decode cX8_isBottle 9 = .ok (.isub, 1) := by decide +kernel
theorem dX8_isBottle_10 : decode cX8_isBottle 10 = .ok (.invokestatic 47, 3) := by decide +kernel
theorem dX8_isBottle_13 : decode cX8_isBottle 13 = .ok (.ireturn, 1) := by decide +kernel
theorem dX8_becomes_0 : decode cX8_becomes 0 = .ok (.aload_n 0, 1) := by decide +kernel
theorem dX8_becomes_1 : decode cX8_becomes 1 = .ok (.getfield 9, 3) := by decide +kernel
theorem dX8_becomes_4 : decode cX8_becomes 4 = .ok (.iload_n 1, 1) := by decide +kernel
theorem dX8_becomes_5 : decode cX8_becomes 5 = .ok (.iaload, 1) := by decide +kernel
theorem dX8_becomes_6 : decode cX8_becomes 6 = .ok (.istore_n 3, 1) := by decide +kernel
theorem dX8_becomes_7 : decode cX8_becomes 7 = .ok (.aload_n 0, 1) := by decide +kernel
theorem dX8_becomes_8 : decode cX8_becomes 8 = .ok (.getfield 9, 3) := by decide +kernel
theorem dX8_becomes_11 : decode cX8_becomes 11 = .ok (.iload_n 1, 1) := by decide +kernel
theorem dX8_becomes_12 : decode cX8_becomes 12 = .ok (.iload_n 2, 1) := by decide +kernel
theorem dX8_becomes_13 : decode cX8_becomes 13 = .ok (.iastore, 1) := by decide +kernel
theorem dX8_becomes_14 : decode cX8_becomes 14 = .ok (.iload_n 3, 1) := by decide +kernel
theorem dX8_becomes_15 : decode cX8_becomes 15 = .ok (.ireturn, 1) := by decide +kernel
theorem dX8_bits_0 : decode cX8_bits 0 = .ok (.iconst 0, 1) := by decide +kernel
theorem dX8_bits_1 : decode cX8_bits 1 = .ok (.istore_n 1, 1) := by decide +kernel
theorem dX8_bits_2 : decode cX8_bits 2 = .ok (.iload_n 0, 1) := by decide +kernel
theorem dX8_bits_3 : decode cX8_bits 3 = .ok (.istore_n 2, 1) := by decide +kernel
theorem dX8_bits_4 : decode cX8_bits 4 = .ok (.iload_n 2, 1) := by decide +kernel
theorem dX8_bits_5 : decode cX8_bits 5 = .ok (.ifCond .eq 15, 3) := by decide +kernel
theorem dX8_bits_8 : decode cX8_bits 8 = .ok (.iinc 1 1, 3) := by decide +kernel
theorem dX8_bits_11 : decode cX8_bits 11 = .ok (.iload_n 2, 1) := by decide +kernel
theorem dX8_bits_12 : decode cX8_bits 12 = .ok (.iload_n 2, 1) := by decide +kernel
theorem dX8_bits_13 : decode cX8_bits 13 = .ok (.iconst 1, 1) := by decide +kernel
theorem dX8_bits_14 : decode cX8_bits 14 = .ok (.isub, 1) := by decide +kernel
theorem dX8_bits_15 : decode cX8_bits 15 = .ok (.iand, 1) := by decide +kernel
theorem dX8_bits_16 : decode cX8_bits 16 = .ok (.istore_n 2, 1) := by decide +kernel
theorem dX8_bits_17 : decode cX8_bits 17 = .ok (.goto (-13), 3) := by decide +kernel
theorem dX8_bits_20 : decode cX8_bits 20 = .ok (.iload_n 1, 1) := by decide +kernel
theorem dX8_bits_21 : decode cX8_bits 21 = .ok (.ireturn, 1) := by decide +kernel
theorem dX8_steps_0 : decode cX8_steps 0 = .ok (.iload_n 0, 1) := by decide +kernel
theorem dX8_steps_1 : decode cX8_steps 1 = .ok (.iload_n 1, 1) := by decide +kernel
theorem dX8_steps_2 : decode cX8_steps 2 = .ok (.if_icmp .ge 9, 3) := by decide +kernel
theorem dX8_steps_5 : decode cX8_steps 5 = .ok (.iload_n 1, 1) := by decide +kernel
theorem dX8_steps_6 : decode cX8_steps 6 = .ok (.iload_n 0, 1) := by decide +kernel
theorem dX8_steps_7 : decode cX8_steps 7 = .ok (.isub, 1) := by decide +kernel
theorem dX8_steps_8 : decode cX8_steps 8 = .ok (.goto 6, 3) := by decide +kernel
theorem dX8_steps_11 : decode cX8_steps 11 = .ok (.iload_n 0, 1) := by decide +kernel
theorem dX8_steps_12 : decode cX8_steps 12 = .ok (.iload_n 1, 1) := by decide +kernel
theorem dX8_steps_13 : decode cX8_steps 13 = .ok (.isub, 1) := by decide +kernel
theorem dX8_steps_14 : decode cX8_steps 14 = .ok (.ireturn, 1) := by decide +kernel
theorem dX8_isThere_0 : decode cX8_isThere 0 = .ok (.aload_n 0, 1) := by decide +kernel
theorem dX8_isThere_1 : decode cX8_isThere 1 = .ok (.getfield 9, 3) := by decide +kernel
theorem dX8_isThere_4 : decode cX8_isThere 4 = .ok (.bipush 31, 2) := by decide +kernel
theorem dX8_isThere_6 : decode cX8_isThere 6 = .ok (.iload_n 1, 1) := by decide +kernel
theorem dX8_isThere_7 : decode cX8_isThere 7 = .ok (.iadd, 1) := by decide +kernel
theorem dX8_isThere_8 : decode cX8_isThere 8 = .ok (.iaload, 1) := by decide +kernel
theorem dX8_isThere_9 : decode cX8_isThere 9 = .ok (.ifCond .ne 7, 3) := by decide +kernel
theorem dX8_isThere_12 : decode cX8_isThere 12 = .ok (.iconst 1, 1) := by decide +kernel
theorem dX8_isThere_13 : decode cX8_isThere 13 = .ok (.goto 4, 3) := by decide +kernel
theorem dX8_isThere_16 : decode cX8_isThere 16 = .ok (.iconst 0, 1) := by decide +kernel
theorem dX8_isThere_17 : decode cX8_isThere 17 = .ok (.ireturn, 1) := by decide +kernel
theorem dX8_isSeen_0 : decode cX8_isSeen 0 = .ok (.iload_n 1, 1) := by decide +kernel
theorem dX8_isSeen_1 : decode cX8_isSeen 1 = .ok (.iload_n 3, 1) := by decide +kernel
theorem dX8_isSeen_2 : decode cX8_isSeen 2 = .ok (.if_icmp .eq 11, 3) := by decide +kernel
theorem dX8_isSeen_5 : decode cX8_isSeen 5 = .ok (.aload_n 0, 1) := by decide +kernel
theorem dX8_isSeen_6 : decode cX8_isSeen 6 = .ok (.iload_n 3, 1) := by decide +kernel
theorem dX8_isSeen_7 : decode cX8_isSeen 7 = .ok (.invokevirtual 51, 3) := by decide +kernel
theorem dX8_isSeen_10 : decode cX8_isSeen 10 = .ok (.ifCond .ne 5, 3) := by decide +kernel
theorem dX8_isSeen_13 : decode cX8_isSeen 13 = .ok (.iconst 0, 1) := by decide +kernel
theorem dX8_isSeen_14 : decode cX8_isSeen 14 = .ok (.ireturn, 1) := by decide +kernel
theorem dX8_isSeen_15 : decode cX8_isSeen 15 = .ok (.aload_n 0, 1) := by decide +kernel
theorem dX8_isSeen_16 : decode cX8_isSeen 16 = .ok (.getfield 9, 3) := by decide +kernel
theorem dX8_isSeen_19 : decode cX8_isSeen 19 = .ok (.bipush 11, 2) := by decide +kernel
theorem dX8_isSeen_21 : decode cX8_isSeen 21 = .ok (.iload_n 3, 1) := by decide +kernel
theorem dX8_isSeen_22 : decode cX8_isSeen 22 = .ok (.iadd, 1) := by decide +kernel
theorem dX8_isSeen_23 : decode cX8_isSeen 23 = .ok (.iaload, 1) := by decide +kernel
theorem dX8_isSeen_24 : decode cX8_isSeen 24 = .ok (.iload_n 2, 1) := by decide +kernel
theorem dX8_isSeen_25 : decode cX8_isSeen 25 = .ok (.isub, 1) := by decide +kernel
theorem dX8_isSeen_26 : decode cX8_isSeen 26 = .ok (.istore 4, 2) := by decide +kernel
theorem dX8_isSeen_28 : decode cX8_isSeen 28 = .ok (.iload_n 1, 1) := by decide +kernel
theorem dX8_isSeen_29 : decode cX8_isSeen 29 = .ok (.iload_n 3, 1) := by decide +kernel
theorem dX8_isSeen_30 : decode cX8_isSeen 30 = .ok (.invokestatic 55, 3) := by decide +kernel
theorem dX8_isSeen_33 : decode cX8_isSeen 33 = .ok (.istore 5, 2) := by decide +kernel
theorem dX8_isSeen_35 : decode cX8_isSeen 35 = .ok (.iconst 1, 1) := by decide +kernel
theorem dX8_isSeen_36 : decode cX8_isSeen 36 = .ok (.istore 6, 2) := by decide +kernel
theorem dX8_isSeen_38 : decode cX8_isSeen 38 = .ok (.iload 6, 2) := by decide +kernel
theorem dX8_isSeen_40 : decode cX8_isSeen 40 = .ok (.iload 5, 2) := by decide +kernel
theorem dX8_isSeen_42 : decode cX8_isSeen 42 = .ok (.if_icmp .ge 61, 3) := by decide +kernel
theorem dX8_isSeen_45 : decode cX8_isSeen 45 = .ok (.iload_n 1, 1) := by decide +kernel
theorem dX8_isSeen_46 : decode cX8_isSeen 46 = .ok (.iload_n 3, 1) := by decide +kernel
theorem dX8_isSeen_47 : decode cX8_isSeen 47 = .ok (.if_icmp .ge 10, 3) := by decide +kernel
theorem dX8_isSeen_50 : decode cX8_isSeen 50 = .ok (.iload_n 1, 1) := by decide +kernel
theorem dX8_isSeen_51 : decode cX8_isSeen 51 = .ok (.iload 6, 2) := by decide +kernel
theorem dX8_isSeen_53 : decode cX8_isSeen 53 = .ok (.iadd, 1) := by decide +kernel
theorem dX8_isSeen_54 : decode cX8_isSeen 54 = .ok (.goto 7, 3) := by decide +kernel
theorem dX8_isSeen_57 : decode cX8_isSeen 57 = .ok (.iload_n 1, 1) := by decide +kernel
theorem dX8_isSeen_58 : decode cX8_isSeen 58 = .ok (.iload 6, 2) := by decide +kernel
theorem dX8_isSeen_60 : decode cX8_isSeen 60 = .ok (.isub, 1) := by decide +kernel
theorem dX8_isSeen_61 : decode cX8_isSeen 61 = .ok (.istore 7, 2) := by decide +kernel
theorem dX8_isSeen_63 : decode cX8_isSeen 63 = .ok (.aload_n 0, 1) := by decide +kernel
theorem dX8_isSeen_64 : decode cX8_isSeen 64 = .ok (.iload 7, 2) := by decide +kernel
theorem dX8_isSeen_66 : decode cX8_isSeen 66 = .ok (.invokevirtual 51, 3) := by decide +kernel
theorem dX8_isSeen_69 : decode cX8_isSeen 69 = .ok (.ifCond .eq 28, 3) := by decide +kernel
theorem dX8_isSeen_72 : decode cX8_isSeen 72 = .ok (.aload_n 0, 1) := by decide +kernel
theorem dX8_isSeen_73 : decode cX8_isSeen 73 = .ok (.getfield 9, 3) := by decide +kernel
theorem dX8_isSeen_76 : decode cX8_isSeen 76 = .ok (.bipush 11, 2) := by decide +kernel
theorem dX8_isSeen_78 : decode cX8_isSeen 78 = .ok (.iload 7, 2) := by decide +kernel
