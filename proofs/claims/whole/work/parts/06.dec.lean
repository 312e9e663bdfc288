theorem dX8_isSeen_80 : decode cX8_isSeen 80 = .ok (.iadd, 1) := by decide +kernel
theorem dX8_isSeen_81 : decode cX8_isSeen 81 = .ok (.iaload, 1) := by decide +kernel
theorem dX8_isSeen_82 : decode cX8_isSeen 82 = .ok (.iload_n 2, 1) := by decide +kernel
theorem dX8_isSeen_83 : decode cX8_isSeen 83 = .ok (.isub, 1) := by decide +kernel
theorem dX8_isSeen_84 : decode cX8_isSeen 84 = .ok (.iload 5, 2) := by decide +kernel
theorem dX8_isSeen_86 : decode cX8_isSeen 86 = .ok (.imul, 1) := by decide +kernel
theorem dX8_isSeen_87 : decode cX8_isSeen 87 = .ok (.iload 4, 2) := by decide +kernel
theorem dX8_isSeen_89 : decode cX8_isSeen 89 = .ok (.iload 6, 2) := by decide +kernel
theorem dX8_isSeen_91 : decode cX8_isSeen 91 = .ok (.imul, 1) := by decide +kernel
theorem dX8_isSeen_92 : decode cX8_isSeen 92 = .ok (.if_icmp .lt 5, 3) := by decide +kernel
theorem dX8_isSeen_95 : decode cX8_isSeen 95 = .ok (.iconst 0, 1) := by decide +kernel
theorem dX8_isSeen_96 : decode cX8_isSeen 96 = .ok (.ireturn, 1) := by decide +kernel
theorem dX8_isSeen_97 : decode cX8_isSeen 97 = .ok (.iinc 6 1, 3) := by decide +kernel
theorem dX8_isSeen_100 : decode cX8_isSeen 100 = .ok (.goto (-62), 3) := by decide +kernel
theorem dX8_isSeen_103 : decode cX8_isSeen 103 = .ok (.iconst 1, 1) := by decide +kernel
theorem dX8_isSeen_104 : decode cX8_isSeen 104 = .ok (.ireturn, 1) := by decide +kernel
theorem dX8_viewOf_0 : decode cX8_viewOf 0 = .ok (.iconst 0, 1) := by decide +kernel
theorem dX8_viewOf_1 : decode cX8_viewOf 1 = .ok (.istore_n 3, 1) := by decide +kernel
theorem dX8_viewOf_2 : decode cX8_viewOf 2 = .ok (.iload_n 2, 1) := by decide +kernel
theorem dX8_viewOf_3 : decode cX8_viewOf 3 = .ok (.ifCond .ne 7, 3) := by decide +kernel
theorem dX8_viewOf_6 : decode cX8_viewOf 6 = .ok (.iconst 0, 1) := by decide +kernel
theorem dX8_viewOf_7 : decode cX8_viewOf 7 = .ok (.goto 6, 3) := by decide +kernel
theorem dX8_viewOf_10 : decode cX8_viewOf 10 = .ok (.iload_n 1, 1) := by decide +kernel
theorem dX8_viewOf_11 : decode cX8_viewOf 11 = .ok (.iconst 1, 1) := by decide +kernel
theorem dX8_viewOf_12 : decode cX8_viewOf 12 = .ok (.iadd, 1) := by decide +kernel
theorem dX8_viewOf_13 : decode cX8_viewOf 13 = .ok (.istore 4, 2) := by decide +kernel
theorem dX8_viewOf_15 : decode cX8_viewOf 15 = .ok (.iload_n 2, 1) := by decide +kernel
theorem dX8_viewOf_16 : decode cX8_viewOf 16 = .ok (.ifCond .ne 7, 3) := by decide +kernel
theorem dX8_viewOf_19 : decode cX8_viewOf 19 = .ok (.iload_n 1, 1) := by decide +kernel
theorem dX8_viewOf_20 : decode cX8_viewOf 20 = .ok (.goto 5, 3) := by decide +kernel
theorem dX8_viewOf_23 : decode cX8_viewOf 23 = .ok (.bipush 20, 2) := by decide +kernel
theorem dX8_viewOf_25 : decode cX8_viewOf 25 = .ok (.istore 5, 2) := by decide +kernel
theorem dX8_viewOf_27 : decode cX8_viewOf 27 = .ok (.iload 4, 2) := by decide +kernel
theorem dX8_viewOf_29 : decode cX8_viewOf 29 = .ok (.istore 6, 2) := by decide +kernel
theorem dX8_viewOf_31 : decode cX8_viewOf 31 = .ok (.iload 6, 2) := by decide +kernel
theorem dX8_viewOf_33 : decode cX8_viewOf 33 = .ok (.iload 5, 2) := by decide +kernel
theorem dX8_viewOf_35 : decode cX8_viewOf 35 = .ok (.if_icmp .ge 39, 3) := by decide +kernel
theorem dX8_viewOf_38 : decode cX8_viewOf 38 = .ok (.iload_n 3, 1) := by decide +kernel
theorem dX8_viewOf_39 : decode cX8_viewOf 39 = .ok (.aload_n 0, 1) := by decide +kernel
theorem dX8_viewOf_40 : decode cX8_viewOf 40 = .ok (.iload_n 1, 1) := by decide +kernel
theorem dX8_viewOf_41 : decode cX8_viewOf 41 = .ok (.aload_n 0, 1) := by decide +kernel
theorem dX8_viewOf_42 : decode cX8_viewOf 42 = .ok (.getfield 9, 3) := by decide +kernel
theorem dX8_viewOf_45 : decode cX8_viewOf 45 = .ok (.bipush 11, 2) := by decide +kernel
theorem dX8_viewOf_47 : decode cX8_viewOf 47 = .ok (.iload_n 1, 1) := by decide +kernel
theorem dX8_viewOf_48 : decode cX8_viewOf 48 = .ok (.iadd, 1) := by decide +kernel
theorem dX8_viewOf_49 : decode cX8_viewOf 49 = .ok (.iaload, 1) := by decide +kernel
theorem dX8_viewOf_50 : decode cX8_viewOf 50 = .ok (.iload 6, 2) := by decide +kernel
theorem dX8_viewOf_52 : decode cX8_viewOf 52 = .ok (.invokevirtual 59, 3) := by decide +kernel
theorem dX8_viewOf_55 : decode cX8_viewOf 55 = .ok (.ifCond .eq 10, 3) := by decide +kernel
theorem dX8_viewOf_58 : decode cX8_viewOf 58 = .ok (.iconst 1, 1) := by decide +kernel
theorem dX8_viewOf_59 : decode cX8_viewOf 59 = .ok (.iload 6, 2) := by decide +kernel
theorem dX8_viewOf_61 : decode cX8_viewOf 61 = .ok (.ishl, 1) := by decide +kernel
theorem dX8_viewOf_62 : decode cX8_viewOf 62 = .ok (.goto 4, 3) := by decide +kernel
theorem dX8_viewOf_65 : decode cX8_viewOf 65 = .ok (.iconst 0, 1) := by decide +kernel
theorem dX8_viewOf_66 : decode cX8_viewOf 66 = .ok (.ior, 1) := by decide +kernel
theorem dX8_viewOf_67 : decode cX8_viewOf 67 = .ok (.istore_n 3, 1) := by decide +kernel
theorem dX8_viewOf_68 : decode cX8_viewOf 68 = .ok (.iinc 6 1, 3) := by decide +kernel
theorem dX8_viewOf_71 : decode cX8_viewOf 71 = .ok (.goto (-40), 3) := by decide +kernel
theorem dX8_viewOf_74 : decode cX8_viewOf 74 = .ok (.iload_n 3, 1) := by decide +kernel
theorem dX8_viewOf_75 : decode cX8_viewOf 75 = .ok (.ireturn, 1) := by decide +kernel
theorem dX8_sightsOf_0 : decode cX8_sightsOf 0 = .ok (.aload_n 0, 1) := by decide +kernel
theorem dX8_sightsOf_1 : decode cX8_sightsOf 1 = .ok (.iload_n 1, 1) := by decide +kernel
theorem dX8_sightsOf_2 : decode cX8_sightsOf 2 = .ok (.iconst 0, 1) := by decide +kernel
theorem dX8_sightsOf_3 : decode cX8_sightsOf 3 = .ok (.invokevirtual 62, 3) := by decide +kernel
theorem dX8_sightsOf_6 : decode cX8_sightsOf 6 = .ok (.invokestatic 65, 3) := by decide +kernel
theorem dX8_sightsOf_9 : decode cX8_sightsOf 9 = .ok (.aload_n 0, 1) := by decide +kernel
theorem dX8_sightsOf_10 : decode cX8_sightsOf 10 = .ok (.iload_n 1, 1) := by decide +kernel
theorem dX8_sightsOf_11 : decode cX8_sightsOf 11 = .ok (.iconst 1, 1) := by decide +kernel
theorem dX8_sightsOf_12 : decode cX8_sightsOf 12 = .ok (.invokevirtual 62, 3) := by decide +kernel
theorem dX8_sightsOf_15 : decode cX8_sightsOf 15 = .ok (.invokestatic 65, 3) := by decide +kernel
theorem dX8_sightsOf_18 : decode cX8_sightsOf 18 = .ok (.iadd, 1) := by decide +kernel
theorem dX8_sightsOf_19 : decode cX8_sightsOf 19 = .ok (.ireturn, 1) := by decide +kernel
theorem dX8_land_0 : decode cX8_land 0 = .ok (.iload_n 1, 1) := by decide +kernel
theorem dX8_land_1 : decode cX8_land 1 = .ok (.invokestatic 69, 3) := by decide +kernel
theorem dX8_land_4 : decode cX8_land 4 = .ok (.ifCond .eq 31, 3) := by decide +kernel
theorem dX8_land_7 : decode cX8_land 7 = .ok (.iload_n 2, 1) := by decide +kernel
theorem dX8_land_8 : decode cX8_land 8 = .ok (.iconst 0, 1) := by decide +kernel
theorem dX8_land_9 : decode cX8_land 9 = .ok (.iconst 1, 1) := by decide +kernel
theorem dX8_land_10 : decode cX8_land 10 = .ok (.invokestatic 47, 3) := by decide +kernel
theorem dX8_land_13 : decode cX8_land 13 = .ok (.ifCond .eq 22, 3) := by decide +kernel
theorem dX8_land_16 : decode cX8_land 16 = .ok (.iload_n 3, 1) := by decide +kernel
theorem dX8_land_17 : decode cX8_land 17 = .ok (.iconst 0, 1) := by decide +kernel
theorem dX8_land_18 : decode cX8_land 18 = .ok (.iload_n 2, 1) := by decide +kernel
theorem dX8_land_19 : decode cX8_land 19 = .ok (.ifCond .ne 8, 3) := by decide +kernel
theorem dX8_land_22 : decode cX8_land 22 = .ok (.bipush 20, 2) := by decide +kernel
theorem dX8_land_24 : decode cX8_land 24 = .ok (.goto 5, 3) := by decide +kernel
theorem dX8_land_27 : decode cX8_land 27 = .ok (.bipush 99, 2) := by decide +kernel
theorem dX8_land_29 : decode cX8_land 29 = .ok (.invokestatic 47, 3) := by decide +kernel
theorem dX8_land_32 : decode cX8_land 32 = .ok (.ifCond .ne 10, 3) := by decide +kernel
theorem dX8_land_35 : decode cX8_land 35 = .ok (.aload_n 0, 1) := by decide +kernel
theorem dX8_land_36 : decode cX8_land 36 = .ok (.ldc 72, 2) := by decide +kernel
theorem dX8_land_38 : decode cX8_land 38 = .ok (.invokevirtual 73, 3) := by decide +kernel
theorem dX8_land_41 : decode cX8_land 41 = .ok (.ireturn, 1) := by decide +kernel
theorem dX8_land_42 : decode cX8_land 42 = .ok (.aload_n 0, 1) := by decide +kernel
theorem dX8_land_43 : decode cX8_land 43 = .ok (.iload_n 2, 1) := by decide +kernel
theorem dX8_land_44 : decode cX8_land 44 = .ok (.ifCond .ne 8, 3) := by decide +kernel
theorem dX8_land_47 : decode cX8_land 47 = .ok (.bipush 11, 2) := by decide +kernel
theorem dX8_land_49 : decode cX8_land 49 = .ok (.goto 5, 3) := by decide +kernel
theorem dX8_land_52 : decode cX8_land 52 = .ok (.bipush 31, 2) := by decide +kernel
theorem dX8_land_54 : decode cX8_land 54 = .ok (.iload_n 1, 1) := by decide +kernel
theorem dX8_land_55 : decode cX8_land 55 = .ok (.iadd, 1) := by decide +kernel
theorem dX8_land_56 : decode cX8_land 56 = .ok (.iload_n 3, 1) := by decide +kernel
theorem dX8_land_57 : decode cX8_land 57 = .ok (.invokevirtual 76, 3) := by decide +kernel
theorem dX8_land_60 : decode cX8_land 60 = .ok (.ireturn, 1) := by decide +kernel
theorem dX8_villagesAt_0 : decode cX8_villagesAt 0 = .ok (.iconst 0, 1) := by decide +kernel
theorem dX8_villagesAt_1 : decode cX8_villagesAt 1 = .ok (.istore_n 2, 1) := by decide +kernel
theorem dX8_villagesAt_2 : decode cX8_villagesAt 2 = .ok (.iconst 0, 1) := by decide +kernel
theorem dX8_villagesAt_3 : decode cX8_villagesAt 3 = .ok (.istore_n 3, 1) := by decide +kernel
theorem dX8_villagesAt_4 : decode cX8_villagesAt 4 = .ok (.iload_n 3, 1) := by decide +kernel
theorem dX8_villagesAt_5 : decode cX8_villagesAt 5 = .ok (.aload_n 0, 1) := by decide +kernel
theorem dX8_villagesAt_6 : decode cX8_villagesAt 6 = .ok (.getfield 9, 3) := by decide +kernel
theorem dX8_villagesAt_9 : decode cX8_villagesAt 9 = .ok (.iconst 2, 1) := by decide +kernel
theorem dX8_villagesAt_10 : decode cX8_villagesAt 10 = .ok (.iaload, 1) := by decide +kernel
theorem dX8_villagesAt_11 : decode cX8_villagesAt 11 = .ok (.if_icmp .ge 32, 3) := by decide +kernel
theorem dX8_villagesAt_14 : decode cX8_villagesAt 14 = .ok (.iload_n 2, 1) := by decide +kernel
theorem dX8_villagesAt_15 : decode cX8_villagesAt 15 = .ok (.aload_n 0, 1) := by decide +kernel
theorem dX8_villagesAt_16 : decode cX8_villagesAt 16 = .ok (.getfield 9, 3) := by decide +kernel
theorem dX8_villagesAt_19 : decode cX8_villagesAt 19 = .ok (.bipush 6, 2) := by decide +kernel
theorem dX8_villagesAt_21 : decode cX8_villagesAt 21 = .ok (.iload_n 3, 1) := by decide +kernel
theorem dX8_villagesAt_22 : decode cX8_villagesAt 22 = .ok (.iadd, 1) := by decide +kernel
theorem dX8_villagesAt_23 : decode cX8_villagesAt 23 = .ok (.iaload, 1) := by decide +kernel
theorem dX8_villagesAt_24 : decode cX8_villagesAt 24 = .ok (.iload_n 1, 1) := by decide +kernel
theorem dX8_villagesAt_25 : decode cX8_villagesAt 25 = .ok (.if_icmp .ne 9, 3) := by decide +kernel
theorem dX8_villagesAt_28 : decode cX8_villagesAt 28 = .ok (.iconst 1, 1) := by decide +kernel
theorem dX8_villagesAt_29 : decode cX8_villagesAt 29 = .ok (.iload_n 3, 1) := by decide +kernel
theorem dX8_villagesAt_30 : decode cX8_villagesAt 30 = .ok (.ishl, 1) := by decide +kernel
theorem dX8_villagesAt_31 : decode cX8_villagesAt 31 = .ok (.goto 4, 3) := by decide +kernel
theorem dX8_villagesAt_34 : decode cX8_villagesAt 34 = .ok (.iconst 0, 1) := by decide +kernel
theorem dX8_villagesAt_35 : decode cX8_villagesAt 35 = .ok (.ior, 1) := by decide +kernel
theorem dX8_villagesAt_36 : decode cX8_villagesAt 36 = .ok (.istore_n 2, 1) := by decide +kernel
theorem dX8_villagesAt_37 : decode cX8_villagesAt 37 = .ok (.iinc 3 1, 3) := by decide +kernel
theorem dX8_villagesAt_40 : decode cX8_villagesAt 40 = .ok (.goto (-36), 3) := by decide +kernel
theorem dX8_villagesAt_43 : decode cX8_villagesAt 43 = .ok (.iload_n 2, 1) := by decide +kernel
theorem dX8_villagesAt_44 : decode cX8_villagesAt 44 = .ok (.ireturn, 1) := by decide +kernel
theorem dX8_ofPlace_0 : decode cX8_ofPlace 0 = .ok (.iload_n 1, 1) := by decide +kernel
theorem dX8_ofPlace_1 : decode cX8_ofPlace 1 = .ok (.invokestatic 69, 3) := by decide +kernel
theorem dX8_ofPlace_4 : decode cX8_ofPlace 4 = .ok (.ifCond .ne 10, 3) := by decide +kernel
theorem dX8_ofPlace_7 : decode cX8_ofPlace 7 = .ok (.aload_n 0, 1) := by decide +kernel
theorem dX8_ofPlace_8 : decode cX8_ofPlace 8 = .ok (.ldc 72, 2) := by decide +kernel
theorem dX8_ofPlace_10 : decode cX8_ofPlace 10 = .ok (.invokevirtual 73, 3) := by decide +kernel
theorem dX8_ofPlace_13 : decode cX8_ofPlace 13 = .ok (.ireturn, 1) := by decide +kernel
theorem dX8_ofPlace_14 : decode cX8_ofPlace 14 = .ok (.iload_n 2, 1) := by decide +kernel
theorem dX8_ofPlace_15 : decode cX8_ofPlace 15 = .ok (.tableswitch 78 0 5 #[37, 47, 57, 57, 66, 72], 37) := by decide +kernel
theorem dX8_ofPlace_52 : decode cX8_ofPlace 52 = .ok (.aload_n 0, 1) := by decide +kernel
theorem dX8_ofPlace_53 : decode cX8_ofPlace 53 = .ok (.getfield 9, 3) := by decide +kernel
theorem dX8_ofPlace_56 : decode cX8_ofPlace 56 = .ok (.bipush 11, 2) := by decide +kernel
theorem dX8_ofPlace_58 : decode cX8_ofPlace 58 = .ok (.iload_n 1, 1) := by decide +kernel
theorem dX8_ofPlace_59 : decode cX8_ofPlace 59 = .ok (.iadd, 1) := by decide +kernel
theorem dX8_ofPlace_60 : decode cX8_ofPlace 60 = .ok (.iaload, 1) := by decide +kernel
theorem dX8_ofPlace_61 : decode cX8_ofPlace 61 = .ok (.ireturn, 1) := by decide +kernel
theorem dX8_ofPlace_62 : decode cX8_ofPlace 62 = .ok (.aload_n 0, 1) := by decide +kernel
theorem dX8_ofPlace_63 : decode cX8_ofPlace 63 = .ok (.getfield 9, 3) := by decide +kernel
theorem dX8_ofPlace_66 : decode cX8_ofPlace 66 = .ok (.bipush 31, 2) := by decide +kernel
theorem dX8_ofPlace_68 : decode cX8_ofPlace 68 = .ok (.iload_n 1, 1) := by decide +kernel
theorem dX8_ofPlace_69 : decode cX8_ofPlace 69 = .ok (.iadd, 1) := by decide +kernel
theorem dX8_ofPlace_70 : decode cX8_ofPlace 70 = .ok (.iaload, 1) := by decide +kernel
theorem dX8_ofPlace_71 : decode cX8_ofPlace 71 = .ok (.ireturn, 1) := by decide +kernel
theorem dX8_ofPlace_72 : decode cX8_ofPlace 72 = .ok (.aload_n 0, 1) := by decide +kernel
theorem dX8_ofPlace_73 : decode cX8_ofPlace 73 = .ok (.iload_n 1, 1) := by decide +kernel
theorem dX8_ofPlace_74 : decode cX8_ofPlace 74 = .ok (.iload_n 2, 1) := by decide +kernel
theorem dX8_ofPlace_75 : decode cX8_ofPlace 75 = .ok (.iconst 2, 1) := by decide +kernel
theorem dX8_ofPlace_76 : decode cX8_ofPlace 76 = .ok (.isub, 1) := by decide +kernel
theorem dX8_ofPlace_77 : decode cX8_ofPlace 77 = .ok (.invokevirtual 62, 3) := by decide +kernel
theorem dX8_ofPlace_80 : decode cX8_ofPlace 80 = .ok (.ireturn, 1) := by decide +kernel
theorem dX8_ofPlace_81 : decode cX8_ofPlace 81 = .ok (.aload_n 0, 1) := by decide +kernel
theorem dX8_ofPlace_82 : decode cX8_ofPlace 82 = .ok (.iload_n 1, 1) := by decide +kernel
theorem dX8_ofPlace_83 : decode cX8_ofPlace 83 = .ok (.invokevirtual 79, 3) := by decide +kernel
theorem dX8_ofPlace_86 : decode cX8_ofPlace 86 = .ok (.ireturn, 1) := by decide +kernel
theorem dX8_ofPlace_87 : decode cX8_ofPlace 87 = .ok (.aload_n 0, 1) := by decide +kernel
theorem dX8_ofPlace_88 : decode cX8_ofPlace 88 = .ok (.iload_n 1, 1) := by decide +kernel
theorem dX8_ofPlace_89 : decode cX8_ofPlace 89 = .ok (.invokevirtual 82, 3) := by decide +kernel
theorem dX8_ofPlace_92 : decode cX8_ofPlace 92 = .ok (.ireturn, 1) := by decide +kernel
theorem dX8_ofPlace_93 : decode cX8_ofPlace 93 = .ok (.aload_n 0, 1) := by decide +kernel
theorem dX8_ofPlace_94 : decode cX8_ofPlace 94 = .ok (.ldc 72, 2) := by decide +kernel
theorem dX8_ofPlace_96 : decode cX8_ofPlace 96 = .ok (.invokevirtual 73, 3) := by decide +kernel
theorem dX8_ofPlace_99 : decode cX8_ofPlace 99 = .ok (.ireturn, 1) := by decide +kernel
theorem dX8_village_0 : decode cX8_village 0 = .ok (.iload_n 1, 1) := by decide +kernel
theorem dX8_village_1 : decode cX8_village 1 = .ok (.invokestatic 69, 3) := by decide +kernel
theorem dX8_village_4 : decode cX8_village 4 = .ok (.ifCond .ne 10, 3) := by decide +kernel
theorem dX8_village_7 : decode cX8_village 7 = .ok (.aload_n 0, 1) := by decide +kernel
theorem dX8_village_8 : decode cX8_village 8 = .ok (.ldc 72, 2) := by decide +kernel
theorem dX8_village_10 : decode cX8_village 10 = .ok (.invokevirtual 73, 3) := by decide +kernel
theorem dX8_village_13 : decode cX8_village 13 = .ok (.ireturn, 1) := by decide +kernel
theorem dX8_village_14 : decode cX8_village 14 = .ok (.aload_n 0, 1) := by decide +kernel
theorem dX8_village_15 : decode cX8_village 15 = .ok (.getfield 9, 3) := by decide +kernel
theorem dX8_village_18 : decode cX8_village 18 = .ok (.iconst 2, 1) := by decide +kernel
theorem dX8_village_19 : decode cX8_village 19 = .ok (.iaload, 1) := by decide +kernel
theorem dX8_village_20 : decode cX8_village 20 = .ok (.iconst 5, 1) := by decide +kernel
theorem dX8_village_21 : decode cX8_village 21 = .ok (.if_icmp .ne 10, 3) := by decide +kernel
theorem dX8_village_24 : decode cX8_village 24 = .ok (.aload_n 0, 1) := by decide +kernel
theorem dX8_village_25 : decode cX8_village 25 = .ok (.ldc 85, 2) := by decide +kernel
theorem dX8_village_27 : decode cX8_village 27 = .ok (.invokevirtual 73, 3) := by decide +kernel
theorem dX8_village_30 : decode cX8_village 30 = .ok (.ireturn, 1) := by decide +kernel
theorem dX8_village_31 : decode cX8_village 31 = .ok (.aload_n 0, 1) := by decide +kernel
theorem dX8_village_32 : decode cX8_village 32 = .ok (.getfield 9, 3) := by decide +kernel
theorem dX8_village_35 : decode cX8_village 35 = .ok (.bipush 6, 2) := by decide +kernel
theorem dX8_village_37 : decode cX8_village 37 = .ok (.aload_n 0, 1) := by decide +kernel
theorem dX8_village_38 : decode cX8_village 38 = .ok (.getfield 9, 3) := by decide +kernel
theorem dX8_village_41 : decode cX8_village 41 = .ok (.iconst 2, 1) := by decide +kernel
theorem dX8_village_42 : decode cX8_village 42 = .ok (.iaload, 1) := by decide +kernel
theorem dX8_village_43 : decode cX8_village 43 = .ok (.iadd, 1) := by decide +kernel
theorem dX8_village_44 : decode cX8_village 44 = .ok (.iload_n 1, 1) := by decide +kernel
theorem dX8_village_45 : decode cX8_village 45 = .ok (.iastore, 1) := by decide +kernel
theorem dX8_village_46 : decode cX8_village 46 = .ok (.aload_n 0, 1) := by decide +kernel
theorem dX8_village_47 : decode cX8_village 47 = .ok (.getfield 9, 3) := by decide +kernel
theorem dX8_village_50 : decode cX8_village 50 = .ok (.iconst 2, 1) := by decide +kernel
theorem dX8_village_51 : decode cX8_village 51 = .ok (.dup2, 1) := by decide +kernel
theorem dX8_village_52 : decode cX8_village 52 = .ok (.iaload, 1) := by decide +kernel
theorem dX8_village_53 : decode cX8_village 53 = .ok (.iconst 1, 1) := by decide +kernel
theorem dX8_village_54 : decode cX8_village 54 = .ok (.iadd, 1) := by decide +kernel
theorem dX8_village_55 : decode cX8_village 55 = .ok (.iastore, 1) := by decide +kernel
theorem dX8_village_56 : decode cX8_village 56 = .ok (.aload_n 0, 1) := by decide +kernel
theorem dX8_village_57 : decode cX8_village 57 = .ok (.getfield 9, 3) := by decide +kernel
theorem dX8_village_60 : decode cX8_village 60 = .ok (.iconst 2, 1) := by decide +kernel
theorem dX8_village_61 : decode cX8_village 61 = .ok (.iaload, 1) := by decide +kernel
theorem dX8_village_62 : decode cX8_village 62 = .ok (.iconst 1, 1) := by decide +kernel
theorem dX8_village_63 : decode cX8_village 63 = .ok (.isub, 1) := by decide +kernel
theorem dX8_village_64 : decode cX8_village 64 = .ok (.ireturn, 1) := by decide +kernel
theorem dX8_moves_0 : decode cX8_moves 0 = .ok (.aload_n 0, 1) := by decide +kernel
theorem dX8_moves_1 : decode cX8_moves 1 = .ok (.iload_n 1, 1) := by decide +kernel
theorem dX8_moves_2 : decode cX8_moves 2 = .ok (.invokevirtual 86, 3) := by decide +kernel
theorem dX8_moves_5 : decode cX8_moves 5 = .ok (.ifCond .eq 22, 3) := by decide +kernel
theorem dX8_moves_8 : decode cX8_moves 8 = .ok (.iload_n 2, 1) := by decide +kernel
theorem dX8_moves_9 : decode cX8_moves 9 = .ok (.invokestatic 69, 3) := by decide +kernel
theorem dX8_moves_12 : decode cX8_moves 12 = .ok (.ifCond .eq 15, 3) := by decide +kernel
theorem dX8_moves_15 : decode cX8_moves 15 = .ok (.aload_n 0, 1) := by decide +kernel
theorem dX8_moves_16 : decode cX8_moves 16 = .ok (.bipush 6, 2) := by decide +kernel
theorem dX8_moves_18 : decode cX8_moves 18 = .ok (.iload_n 1, 1) := by decide +kernel
theorem dX8_moves_19 : decode cX8_moves 19 = .ok (.iadd, 1) := by decide +kernel
theorem dX8_moves_20 : decode cX8_moves 20 = .ok (.iload_n 2, 1) := by decide +kernel
theorem dX8_moves_21 : decode cX8_moves 21 = .ok (.invokevirtual 76, 3) := by decide +kernel
theorem dX8_moves_24 : decode cX8_moves 24 = .ok (.goto 9, 3) := by decide +kernel
theorem dX8_moves_27 : decode cX8_moves 27 = .ok (.aload_n 0, 1) := by decide +kernel
theorem dX8_moves_28 : decode cX8_moves 28 = .ok (.ldc 72, 2) := by decide +kernel
theorem dX8_moves_30 : decode cX8_moves 30 = .ok (.invokevirtual 73, 3) := by decide +kernel
theorem dX8_moves_33 : decode cX8_moves 33 = .ok (.ireturn, 1) := by decide +kernel
theorem dX8_at_0 : decode cX8_at 0 = .ok (.aload_n 0, 1) := by decide +kernel
theorem dX8_at_1 : decode cX8_at 1 = .ok (.iload_n 1, 1) := by decide +kernel
theorem dX8_at_2 : decode cX8_at 2 = .ok (.invokevirtual 86, 3) := by decide +kernel
theorem dX8_at_5 : decode cX8_at 5 = .ok (.ifCond .eq 15, 3) := by decide +kernel
theorem dX8_at_8 : decode cX8_at 8 = .ok (.aload_n 0, 1) := by decide +kernel
theorem dX8_at_9 : decode cX8_at 9 = .ok (.getfield 9, 3) := by decide +kernel
theorem dX8_at_12 : decode cX8_at 12 = .ok (.bipush 6, 2) := by decide +kernel
theorem dX8_at_14 : decode cX8_at 14 = .ok (.iload_n 1, 1) := by decide +kernel
theorem dX8_at_15 : decode cX8_at 15 = .ok (.iadd, 1) := by decide +kernel
theorem dX8_at_16 : decode cX8_at 16 = .ok (.iaload, 1) := by decide +kernel
theorem dX8_at_17 : decode cX8_at 17 = .ok (.goto 9, 3) := by decide +kernel
theorem dX8_at_20 : decode cX8_at 20 = .ok (.aload_n 0, 1) := by decide +kernel
theorem dX8_at_21 : decode cX8_at 21 = .ok (.ldc 72, 2) := by decide +kernel
theorem dX8_at_23 : decode cX8_at 23 = .ok (.invokevirtual 73, 3) := by decide +kernel
theorem dX8_at_26 : decode cX8_at 26 = .ok (.ireturn, 1) := by decide +kernel
theorem dX8_of_0 : decode cX8_of 0 = .ok (.aload_n 0, 1) := by decide +kernel
theorem dX8_of_1 : decode cX8_of 1 = .ok (.getfield 9, 3) := by decide +kernel
theorem dX8_of_4 : decode cX8_of 4 = .ok (.bipush 51, 2) := by decide +kernel
theorem dX8_of_6 : decode cX8_of 6 = .ok (.bipush 6, 2) := by decide +kernel
theorem dX8_of_8 : decode cX8_of 8 = .ok (.iload_n 1, 1) := by decide +kernel
theorem dX8_of_9 : decode cX8_of 9 = .ok (.imul, 1) := by decide +kernel
theorem dX8_of_10 : decode cX8_of 10 = .ok (.iadd, 1) := by decide +kernel
theorem dX8_of_11 : decode cX8_of 11 = .ok (.iload_n 2, 1) := by decide +kernel
theorem dX8_of_12 : decode cX8_of 12 = .ok (.iadd, 1) := by decide +kernel
theorem dX8_of_13 : decode cX8_of 13 = .ok (.iaload, 1) := by decide +kernel
theorem dX8_of_14 : decode cX8_of 14 = .ok (.ireturn, 1) := by decide +kernel
theorem dX8_lay_0 : decode cX8_lay 0 = .ok (.aload_n 0, 1) := by decide +kernel
theorem dX8_lay_1 : decode cX8_lay 1 = .ok (.getfield 9, 3) := by decide +kernel
theorem dX8_lay_4 : decode cX8_lay 4 = .ok (.bipush 51, 2) := by decide +kernel
theorem dX8_lay_6 : decode cX8_lay 6 = .ok (.bipush 6, 2) := by decide +kernel
theorem dX8_lay_8 : decode cX8_lay 8 = .ok (.iload_n 1, 1) := by decide +kernel
theorem dX8_lay_9 : decode cX8_lay 9 = .ok (.imul, 1) := by decide +kernel
theorem dX8_lay_10 : decode cX8_lay 10 = .ok (.iadd, 1) := by decide +kernel
theorem dX8_lay_11 : decode cX8_lay 11 = .ok (.iload_n 2, 1) := by decide +kernel
theorem dX8_lay_12 : decode cX8_lay 12 = .ok (.iadd, 1) := by decide +kernel
theorem dX8_lay_13 : decode cX8_lay 13 = .ok (.iload_n 3, 1) := by decide +kernel
theorem dX8_lay_14 : decode cX8_lay 14 = .ok (.iastore, 1) := by decide +kernel
theorem dX8_lay_15 : decode cX8_lay 15 = .ok (.return_, 1) := by decide +kernel
theorem dX8_between_0 : decode cX8_between 0 = .ok (.iconst 0, 1) := by decide +kernel
theorem dX8_between_1 : decode cX8_between 1 = .ok (.istore 4, 2) := by decide +kernel
theorem dX8_between_3 : decode cX8_between 3 = .ok (.iconst 0, 1) := by decide +kernel
theorem dX8_between_4 : decode cX8_between 4 = .ok (.istore 5, 2) := by decide +kernel
theorem dX8_between_6 : decode cX8_between 6 = .ok (.iload 5, 2) := by decide +kernel
theorem dX8_between_8 : decode cX8_between 8 = .ok (.bipush 20, 2) := by decide +kernel
theorem dX8_between_10 : decode cX8_between 10 = .ok (.if_icmp .ge 56, 3) := by decide +kernel
theorem dX8_between_13 : decode cX8_between 13 = .ok (.iload 4, 2) := by decide +kernel
theorem dX8_between_15 : decode cX8_between 15 = .ok (.aload_n 0, 1) := by decide +kernel
theorem dX8_between_16 : decode cX8_between 16 = .ok (.iload_n 1, 1) := by decide +kernel
theorem dX8_between_17 : decode cX8_between 17 = .ok (.iconst 3, 1) := by decide +kernel
theorem dX8_between_18 : decode cX8_between 18 = .ok (.invokevirtual 89, 3) := by decide +kernel
theorem dX8_between_21 : decode cX8_between 21 = .ok (.iload 5, 2) := by decide +kernel
theorem dX8_between_23 : decode cX8_between 23 = .ok (.ishr, 1) := by decide +kernel
theorem dX8_between_24 : decode cX8_between 24 = .ok (.iconst 1, 1) := by decide +kernel
theorem dX8_between_25 : decode cX8_between 25 = .ok (.iand, 1) := by decide +kernel
theorem dX8_between_26 : decode cX8_between 26 = .ok (.iconst 1, 1) := by decide +kernel
theorem dX8_between_27 : decode cX8_between 27 = .ok (.if_icmp .ne 29, 3) := by decide +kernel
theorem dX8_between_30 : decode cX8_between 30 = .ok (.aload_n 0, 1) := by decide +kernel
theorem dX8_between_31 : decode cX8_between 31 = .ok (.iload_n 1, 1) := by decide +kernel
theorem dX8_between_32 : decode cX8_between 32 = .ok (.iconst 2, 1) := by decide +kernel
theorem dX8_between_33 : decode cX8_between 33 = .ok (.invokevirtual 89, 3) := by decide +kernel
theorem dX8_between_36 : decode cX8_between 36 = .ok (.iload 5, 2) := by decide +kernel
theorem dX8_between_38 : decode cX8_between 38 = .ok (.invokestatic 55, 3) := by decide +kernel
theorem dX8_between_41 : decode cX8_between 41 = .ok (.iload_n 2, 1) := by decide +kernel
theorem dX8_between_42 : decode cX8_between 42 = .ok (.iload_n 3, 1) := by decide +kernel
theorem dX8_between_43 : decode cX8_between 43 = .ok (.invokestatic 47, 3) := by decide +kernel
theorem dX8_between_46 : decode cX8_between 46 = .ok (.ifCond .eq 10, 3) := by decide +kernel
theorem dX8_between_49 : decode cX8_between 49 = .ok (.iconst 1, 1) := by decide +kernel
theorem dX8_between_50 : decode cX8_between 50 = .ok (.iload 5, 2) := by decide +kernel
theorem dX8_between_52 : decode cX8_between 52 = .ok (.ishl, 1) := by decide +kernel
theorem dX8_between_53 : decode cX8_between 53 = .ok (.goto 4, 3) := by decide +kernel
theorem dX8_between_56 : decode cX8_between 56 = .ok (.iconst 0, 1) := by decide +kernel
theorem dX8_between_57 : decode cX8_between 57 = .ok (.ior, 1) := by decide +kernel
theorem dX8_between_58 : decode cX8_between 58 = .ok (.istore 4, 2) := by decide +kernel
theorem dX8_between_60 : decode cX8_between 60 = .ok (.iinc 5 1, 3) := by decide +kernel
theorem dX8_between_63 : decode cX8_between 63 = .ok (.goto (-57), 3) := by decide +kernel
theorem dX8_between_66 : decode cX8_between 66 = .ok (.iload 4, 2) := by decide +kernel
theorem dX8_between_68 : decode cX8_between 68 = .ok (.ireturn, 1) := by decide +kernel
theorem dX8_leftIn_0 : decode cX8_leftIn 0 = .ok (.aload_n 0, 1) := by decide +kernel
theorem dX8_leftIn_1 : decode cX8_leftIn 1 = .ok (.iload_n 1, 1) := by decide +kernel
theorem dX8_leftIn_2 : decode cX8_leftIn 2 = .ok (.iconst 5, 1) := by decide +kernel
theorem dX8_leftIn_3 : decode cX8_leftIn 3 = .ok (.invokevirtual 89, 3) := by decide +kernel
theorem dX8_leftIn_6 : decode cX8_leftIn 6 = .ok (.iconst 1, 1) := by decide +kernel
theorem dX8_leftIn_7 : decode cX8_leftIn 7 = .ok (.if_icmp .ne 5, 3) := by decide +kernel
theorem dX8_leftIn_10 : decode cX8_leftIn 10 = .ok (.iconst 0, 1) := by decide +kernel
theorem dX8_leftIn_11 : decode cX8_leftIn 11 = .ok (.ireturn, 1) := by decide +kernel
theorem dX8_leftIn_12 : decode cX8_leftIn 12 = .ok (.aload_n 0, 1) := by decide +kernel
theorem dX8_leftIn_13 : decode cX8_leftIn 13 = .ok (.iload_n 1, 1) := by decide +kernel
theorem dX8_leftIn_14 : decode cX8_leftIn 14 = .ok (.iconst 0, 1) := by decide +kernel
theorem dX8_leftIn_15 : decode cX8_leftIn 15 = .ok (.invokevirtual 89, 3) := by decide +kernel
theorem dX8_leftIn_18 : decode cX8_leftIn 18 = .ok (.tableswitch 97 1 6 #[38, 47, 63, 38, 47, 79], 38) := by decide +kernel
theorem dX8_leftIn_56 : decode cX8_leftIn 56 = .ok (.aload_n 0, 1) := by decide +kernel
theorem dX8_leftIn_57 : decode cX8_leftIn 57 = .ok (.iload_n 1, 1) := by decide +kernel
theorem dX8_leftIn_58 : decode cX8_leftIn 58 = .ok (.iconst 3, 1) := by decide +kernel
theorem dX8_leftIn_59 : decode cX8_leftIn 59 = .ok (.bipush 20, 2) := by decide +kernel
theorem dX8_leftIn_61 : decode cX8_leftIn 61 = .ok (.invokevirtual 92, 3) := by decide +kernel
theorem dX8_leftIn_64 : decode cX8_leftIn 64 = .ok (.ireturn, 1) := by decide +kernel
theorem dX8_leftIn_65 : decode cX8_leftIn 65 = .ok (.aload_n 0, 1) := by decide +kernel
theorem dX8_leftIn_66 : decode cX8_leftIn 66 = .ok (.iload_n 1, 1) := by decide +kernel
theorem dX8_leftIn_67 : decode cX8_leftIn 67 = .ok (.iconst 3, 1) := by decide +kernel
theorem dX8_leftIn_68 : decode cX8_leftIn 68 = .ok (.invokevirtual 89, 3) := by decide +kernel
theorem dX8_leftIn_71 : decode cX8_leftIn 71 = .ok (.iconst 1, 1) := by decide +kernel
theorem dX8_leftIn_72 : decode cX8_leftIn 72 = .ok (.aload_n 0, 1) := by decide +kernel
theorem dX8_leftIn_73 : decode cX8_leftIn 73 = .ok (.iload_n 1, 1) := by decide +kernel
theorem dX8_leftIn_74 : decode cX8_leftIn 74 = .ok (.iconst 1, 1) := by decide +kernel
theorem dX8_leftIn_75 : decode cX8_leftIn 75 = .ok (.invokevirtual 89, 3) := by decide +kernel
theorem dX8_leftIn_78 : decode cX8_leftIn 78 = .ok (.ishl, 1) := by decide +kernel
theorem dX8_leftIn_79 : decode cX8_leftIn 79 = .ok (.ior, 1) := by decide +kernel
theorem dX8_leftIn_80 : decode cX8_leftIn 80 = .ok (.ireturn, 1) := by decide +kernel
theorem dX8_leftIn_81 : decode cX8_leftIn 81 = .ok (.aload_n 0, 1) := by decide +kernel
theorem dX8_leftIn_82 : decode cX8_leftIn 82 = .ok (.iload_n 1, 1) := by decide +kernel
theorem dX8_leftIn_83 : decode cX8_leftIn 83 = .ok (.iconst 0, 1) := by decide +kernel
theorem dX8_leftIn_84 : decode cX8_leftIn 84 = .ok (.bipush 19, 2) := by decide +kernel
theorem dX8_leftIn_86 : decode cX8_leftIn 86 = .ok (.aload_n 0, 1) := by decide +kernel
theorem dX8_leftIn_87 : decode cX8_leftIn 87 = .ok (.iload_n 1, 1) := by decide +kernel
theorem dX8_leftIn_88 : decode cX8_leftIn 88 = .ok (.iconst 4, 1) := by decide +kernel
theorem dX8_leftIn_89 : decode cX8_leftIn 89 = .ok (.invokevirtual 89, 3) := by decide +kernel
theorem dX8_leftIn_92 : decode cX8_leftIn 92 = .ok (.isub, 1) := by decide +kernel
theorem dX8_leftIn_93 : decode cX8_leftIn 93 = .ok (.invokevirtual 92, 3) := by decide +kernel
theorem dX8_leftIn_96 : decode cX8_leftIn 96 = .ok (.ireturn, 1) := by decide +kernel
theorem dX8_leftIn_97 : decode cX8_leftIn 97 = .ok (.aload_n 0, 1) := by decide +kernel
theorem dX8_leftIn_98 : decode cX8_leftIn 98 = .ok (.iload_n 1, 1) := by decide +kernel
theorem dX8_leftIn_99 : decode cX8_leftIn 99 = .ok (.iconst 0, 1) := by decide +kernel
theorem dX8_leftIn_100 : decode cX8_leftIn 100 = .ok (.bipush 19, 2) := by decide +kernel
theorem dX8_leftIn_102 : decode cX8_leftIn 102 = .ok (.aload_n 0, 1) := by decide +kernel
theorem dX8_leftIn_103 : decode cX8_leftIn 103 = .ok (.iload_n 1, 1) := by decide +kernel
theorem dX8_leftIn_104 : decode cX8_leftIn 104 = .ok (.iconst 4, 1) := by decide +kernel
theorem dX8_leftIn_105 : decode cX8_leftIn 105 = .ok (.invokevirtual 89, 3) := by decide +kernel
theorem dX8_leftIn_108 : decode cX8_leftIn 108 = .ok (.iconst 2, 1) := by decide +kernel
theorem dX8_leftIn_109 : decode cX8_leftIn 109 = .ok (.idiv, 1) := by decide +kernel
theorem dX8_leftIn_110 : decode cX8_leftIn 110 = .ok (.isub, 1) := by decide +kernel
theorem dX8_leftIn_111 : decode cX8_leftIn 111 = .ok (.invokevirtual 92, 3) := by decide +kernel
theorem dX8_leftIn_114 : decode cX8_leftIn 114 = .ok (.ireturn, 1) := by decide +kernel
theorem dX8_leftIn_115 : decode cX8_leftIn 115 = .ok (.aload_n 0, 1) := by decide +kernel
theorem dX8_leftIn_116 : decode cX8_leftIn 116 = .ok (.iload_n 1, 1) := by decide +kernel
theorem dX8_leftIn_117 : decode cX8_leftIn 117 = .ok (.iconst 3, 1) := by decide +kernel
theorem dX8_leftIn_118 : decode cX8_leftIn 118 = .ok (.invokevirtual 89, 3) := by decide +kernel
theorem dX8_leftIn_121 : decode cX8_leftIn 121 = .ok (.ireturn, 1) := by decide +kernel
theorem dX8_leaguesOf_0 : decode cX8_leaguesOf 0 = .ok (.iconst 0, 1) := by decide +kernel
theorem dX8_leaguesOf_1 : decode cX8_leaguesOf 1 = .ok (.istore_n 2, 1) := by decide +kernel
theorem dX8_leaguesOf_2 : decode cX8_leaguesOf 2 = .ok (.aload_n 0, 1) := by decide +kernel
theorem dX8_leaguesOf_3 : decode cX8_leaguesOf 3 = .ok (.iload_n 1, 1) := by decide +kernel
theorem dX8_leaguesOf_4 : decode cX8_leaguesOf 4 = .ok (.invokevirtual 96, 3) := by decide +kernel
theorem dX8_leaguesOf_7 : decode cX8_leaguesOf 7 = .ok (.istore_n 3, 1) := by decide +kernel
theorem dX8_leaguesOf_8 : decode cX8_leaguesOf 8 = .ok (.iconst 0, 1) := by decide +kernel
theorem dX8_leaguesOf_9 : decode cX8_leaguesOf 9 = .ok (.istore 4, 2) := by decide +kernel
theorem dX8_leaguesOf_11 : decode cX8_leaguesOf 11 = .ok (.iload 4, 2) := by decide +kernel
theorem dX8_leaguesOf_13 : decode cX8_leaguesOf 13 = .ok (.bipush 20, 2) := by decide +kernel
theorem dX8_leaguesOf_15 : decode cX8_leaguesOf 15 = .ok (.if_icmp .ge 45, 3) := by decide +kernel
theorem dX8_leaguesOf_18 : decode cX8_leaguesOf 18 = .ok (.aload_n 0, 1) := by decide +kernel
theorem dX8_leaguesOf_19 : decode cX8_leaguesOf 19 = .ok (.iload_n 1, 1) := by decide +kernel
theorem dX8_leaguesOf_20 : decode cX8_leaguesOf 20 = .ok (.iconst 2, 1) := by decide +kernel
theorem dX8_leaguesOf_21 : decode cX8_leaguesOf 21 = .ok (.invokevirtual 89, 3) := by decide +kernel
theorem dX8_leaguesOf_24 : decode cX8_leaguesOf 24 = .ok (.iload 4, 2) := by decide +kernel
theorem dX8_leaguesOf_26 : decode cX8_leaguesOf 26 = .ok (.invokestatic 55, 3) := by decide +kernel
theorem dX8_leaguesOf_29 : decode cX8_leaguesOf 29 = .ok (.istore 5, 2) := by decide +kernel
theorem dX8_leaguesOf_31 : decode cX8_leaguesOf 31 = .ok (.iload_n 3, 1) := by decide +kernel
theorem dX8_leaguesOf_32 : decode cX8_leaguesOf 32 = .ok (.iload 4, 2) := by decide +kernel
theorem dX8_leaguesOf_34 : decode cX8_leaguesOf 34 = .ok (.ishr, 1) := by decide +kernel
theorem dX8_leaguesOf_35 : decode cX8_leaguesOf 35 = .ok (.iconst 1, 1) := by decide +kernel
theorem dX8_leaguesOf_36 : decode cX8_leaguesOf 36 = .ok (.iand, 1) := by decide +kernel
theorem dX8_leaguesOf_37 : decode cX8_leaguesOf 37 = .ok (.iconst 1, 1) := by decide +kernel
theorem dX8_leaguesOf_38 : decode cX8_leaguesOf 38 = .ok (.if_icmp .ne 14, 3) := by decide +kernel
theorem dX8_leaguesOf_41 : decode cX8_leaguesOf 41 = .ok (.iload 5, 2) := by decide +kernel
theorem dX8_leaguesOf_43 : decode cX8_leaguesOf 43 = .ok (.iload_n 2, 1) := by decide +kernel
theorem dX8_leaguesOf_44 : decode cX8_leaguesOf 44 = .ok (.if_icmp .le 8, 3) := by decide +kernel
theorem dX8_leaguesOf_47 : decode cX8_leaguesOf 47 = .ok (.iload 5, 2) := by decide +kernel
theorem dX8_leaguesOf_49 : decode cX8_leaguesOf 49 = .ok (.goto 4, 3) := by decide +kernel
theorem dX8_leaguesOf_52 : decode cX8_leaguesOf 52 = .ok (.iload_n 2, 1) := by decide +kernel
theorem dX8_leaguesOf_53 : decode cX8_leaguesOf 53 = .ok (.istore_n 2, 1) := by decide +kernel
theorem dX8_leaguesOf_54 : decode cX8_leaguesOf 54 = .ok (.iinc 4 1, 3) := by decide +kernel
theorem dX8_leaguesOf_57 : decode cX8_leaguesOf 57 = .ok (.goto (-46), 3) := by decide +kernel
theorem dX8_leaguesOf_60 : decode cX8_leaguesOf 60 = .ok (.iload_n 2, 1) := by decide +kernel
theorem dX8_leaguesOf_61 : decode cX8_leaguesOf 61 = .ok (.ireturn, 1) := by decide +kernel
theorem dX8_costsOf_0 : decode cX8_costsOf 0 = .ok (.aload_n 0, 1) := by decide +kernel
theorem dX8_costsOf_1 : decode cX8_costsOf 1 = .ok (.iconst 1, 1) := by decide +kernel
theorem dX8_costsOf_2 : decode cX8_costsOf 2 = .ok (.aload_n 0, 1) := by decide +kernel
theorem dX8_costsOf_3 : decode cX8_costsOf 3 = .ok (.iload_n 1, 1) := by decide +kernel
theorem dX8_costsOf_4 : decode cX8_costsOf 4 = .ok (.invokevirtual 96, 3) := by decide +kernel
theorem dX8_costsOf_7 : decode cX8_costsOf 7 = .ok (.invokestatic 65, 3) := by decide +kernel
theorem dX8_costsOf_10 : decode cX8_costsOf 10 = .ok (.aload_n 0, 1) := by decide +kernel
theorem dX8_costsOf_11 : decode cX8_costsOf 11 = .ok (.iload_n 1, 1) := by decide +kernel
theorem dX8_costsOf_12 : decode cX8_costsOf 12 = .ok (.invokevirtual 99, 3) := by decide +kernel
theorem dX8_costsOf_15 : decode cX8_costsOf 15 = .ok (.aload_n 0, 1) := by decide +kernel
theorem dX8_costsOf_16 : decode cX8_costsOf 16 = .ok (.iload_n 1, 1) := by decide +kernel
theorem dX8_costsOf_17 : decode cX8_costsOf 17 = .ok (.iconst 4, 1) := by decide +kernel
theorem dX8_costsOf_18 : decode cX8_costsOf 18 = .ok (.invokevirtual 89, 3) := by decide +kernel
theorem dX8_costsOf_21 : decode cX8_costsOf 21 = .ok (.invokevirtual 102, 3) := by decide +kernel
theorem dX8_costsOf_24 : decode cX8_costsOf 24 = .ok (.istore_n 2, 1) := by decide +kernel
theorem dX8_costsOf_25 : decode cX8_costsOf 25 = .ok (.aload_n 0, 1) := by decide +kernel
theorem dX8_costsOf_26 : decode cX8_costsOf 26 = .ok (.iload_n 1, 1) := by decide +kernel
theorem dX8_costsOf_27 : decode cX8_costsOf 27 = .ok (.iconst 0, 1) := by decide +kernel
theorem dX8_costsOf_28 : decode cX8_costsOf 28 = .ok (.invokevirtual 89, 3) := by decide +kernel
theorem dX8_costsOf_31 : decode cX8_costsOf 31 = .ok (.tableswitch 94 1 6 #[37, 41, 45, 54, 67, 69], 37) := by decide +kernel
theorem dX8_costsOf_68 : decode cX8_costsOf 68 = .ok (.iconst 2, 1) := by decide +kernel
theorem dX8_costsOf_69 : decode cX8_costsOf 69 = .ok (.iload_n 2, 1) := by decide +kernel
theorem dX8_costsOf_70 : decode cX8_costsOf 70 = .ok (.imul, 1) := by decide +kernel
theorem dX8_costsOf_71 : decode cX8_costsOf 71 = .ok (.ireturn, 1) := by decide +kernel
theorem dX8_costsOf_72 : decode cX8_costsOf 72 = .ok (.iload_n 2, 1) := by decide +kernel
theorem dX8_costsOf_73 : decode cX8_costsOf 73 = .ok (.iconst 2, 1) := by decide +kernel
theorem dX8_costsOf_74 : decode cX8_costsOf 74 = .ok (.idiv, 1) := by decide +kernel
theorem dX8_costsOf_75 : decode cX8_costsOf 75 = .ok (.ireturn, 1) := by decide +kernel
theorem dX8_costsOf_76 : decode cX8_costsOf 76 = .ok (.iload_n 2, 1) := by decide +kernel
theorem dX8_costsOf_77 : decode cX8_costsOf 77 = .ok (.aload_n 0, 1) := by decide +kernel
theorem dX8_costsOf_78 : decode cX8_costsOf 78 = .ok (.iload_n 1, 1) := by decide +kernel
theorem dX8_costsOf_79 : decode cX8_costsOf 79 = .ok (.iconst 4, 1) := by decide +kernel
theorem dX8_costsOf_80 : decode cX8_costsOf 80 = .ok (.invokevirtual 89, 3) := by decide +kernel
theorem dX8_costsOf_83 : decode cX8_costsOf 83 = .ok (.iadd, 1) := by decide +kernel
theorem dX8_costsOf_84 : decode cX8_costsOf 84 = .ok (.ireturn, 1) := by decide +kernel
theorem dX8_costsOf_85 : decode cX8_costsOf 85 = .ok (.iconst 2, 1) := by decide +kernel
theorem dX8_costsOf_86 : decode cX8_costsOf 86 = .ok (.iload_n 2, 1) := by decide +kernel
theorem dX8_costsOf_87 : decode cX8_costsOf 87 = .ok (.imul, 1) := by decide +kernel
theorem dX8_costsOf_88 : decode cX8_costsOf 88 = .ok (.iconst 5, 1) := by decide +kernel
theorem dX8_costsOf_89 : decode cX8_costsOf 89 = .ok (.aload_n 0, 1) := by decide +kernel
theorem dX8_costsOf_90 : decode cX8_costsOf 90 = .ok (.iload_n 1, 1) := by decide +kernel
theorem dX8_costsOf_91 : decode cX8_costsOf 91 = .ok (.iconst 1, 1) := by decide +kernel
theorem dX8_costsOf_92 : decode cX8_costsOf 92 = .ok (.invokevirtual 89, 3) := by decide +kernel
theorem dX8_costsOf_95 : decode cX8_costsOf 95 = .ok (.imul, 1) := by decide +kernel
theorem dX8_costsOf_96 : decode cX8_costsOf 96 = .ok (.iadd, 1) := by decide +kernel
theorem dX8_costsOf_97 : decode cX8_costsOf 97 = .ok (.ireturn, 1) := by decide +kernel
theorem dX8_costsOf_98 : decode cX8_costsOf 98 = .ok (.iconst 1, 1) := by decide +kernel
theorem dX8_costsOf_99 : decode cX8_costsOf 99 = .ok (.ireturn, 1) := by decide +kernel
theorem dX8_costsOf_100 : decode cX8_costsOf 100 = .ok (.iload_n 2, 1) := by decide +kernel
theorem dX8_costsOf_101 : decode cX8_costsOf 101 = .ok (.aload_n 0, 1) := by decide +kernel
theorem dX8_costsOf_102 : decode cX8_costsOf 102 = .ok (.iload_n 1, 1) := by decide +kernel
theorem dX8_costsOf_103 : decode cX8_costsOf 103 = .ok (.iconst 4, 1) := by decide +kernel
theorem dX8_costsOf_104 : decode cX8_costsOf 104 = .ok (.invokevirtual 89, 3) := by decide +kernel
theorem dX8_costsOf_107 : decode cX8_costsOf 107 = .ok (.iadd, 1) := by decide +kernel
theorem dX8_costsOf_108 : decode cX8_costsOf 108 = .ok (.aload_n 0, 1) := by decide +kernel
theorem dX8_costsOf_109 : decode cX8_costsOf 109 = .ok (.iload_n 1, 1) := by decide +kernel
theorem dX8_costsOf_110 : decode cX8_costsOf 110 = .ok (.iconst 4, 1) := by decide +kernel
theorem dX8_costsOf_111 : decode cX8_costsOf 111 = .ok (.invokevirtual 89, 3) := by decide +kernel
theorem dX8_costsOf_114 : decode cX8_costsOf 114 = .ok (.aload_n 0, 1) := by decide +kernel
theorem dX8_costsOf_115 : decode cX8_costsOf 115 = .ok (.iload_n 1, 1) := by decide +kernel
theorem dX8_costsOf_116 : decode cX8_costsOf 116 = .ok (.iconst 1, 1) := by decide +kernel
theorem dX8_costsOf_117 : decode cX8_costsOf 117 = .ok (.invokevirtual 89, 3) := by decide +kernel
theorem dX8_costsOf_120 : decode cX8_costsOf 120 = .ok (.iconst 1, 1) := by decide +kernel
theorem dX8_costsOf_121 : decode cX8_costsOf 121 = .ok (.iadd, 1) := by decide +kernel
theorem dX8_costsOf_122 : decode cX8_costsOf 122 = .ok (.idiv, 1) := by decide +kernel
theorem dX8_costsOf_123 : decode cX8_costsOf 123 = .ok (.iadd, 1) := by decide +kernel
theorem dX8_costsOf_124 : decode cX8_costsOf 124 = .ok (.ireturn, 1) := by decide +kernel
theorem dX8_costsOf_125 : decode cX8_costsOf 125 = .ok (.iload_n 2, 1) := by decide +kernel
theorem dX8_costsOf_126 : decode cX8_costsOf 126 = .ok (.ireturn, 1) := by decide +kernel
theorem dX8_isKm_0 : decode cX8_isKm 0 = .ok (.iload_n 0, 1) := by decide +kernel
theorem dX8_isKm_1 : decode cX8_isKm 1 = .ok (.iconst 0, 1) := by decide +kernel
theorem dX8_isKm_2 : decode cX8_isKm 2 = .ok (.bipush 69, 2) := by decide +kernel
theorem dX8_isKm_4 : decode cX8_isKm 4 = .ok (.invokestatic 47, 3) := by decide +kernel
theorem dX8_isKm_7 : decode cX8_isKm 7 = .ok (.ireturn, 1) := by decide +kernel
theorem dX8_fill_0 : decode cX8_fill 0 = .ok (.iload_n 1, 1) := by decide +kernel
theorem dX8_fill_1 : decode cX8_fill 1 = .ok (.invokestatic 106, 3) := by decide +kernel
theorem dX8_fill_4 : decode cX8_fill 4 = .ok (.ifCond .eq 31, 3) := by decide +kernel
theorem dX8_fill_7 : decode cX8_fill 7 = .ok (.aload_n 0, 1) := by decide +kernel
theorem dX8_fill_8 : decode cX8_fill 8 = .ok (.iload_n 2, 1) := by decide +kernel
theorem dX8_fill_9 : decode cX8_fill 9 = .ok (.invokevirtual 86, 3) := by decide +kernel
theorem dX8_fill_12 : decode cX8_fill 12 = .ok (.ifCond .eq 23, 3) := by decide +kernel
theorem dX8_fill_15 : decode cX8_fill 15 = .ok (.iload_n 3, 1) := by decide +kernel
theorem dX8_fill_16 : decode cX8_fill 16 = .ok (.iconst 0, 1) := by decide +kernel
theorem dX8_fill_17 : decode cX8_fill 17 = .ok (.iconst 1, 1) := by decide +kernel
theorem dX8_fill_18 : decode cX8_fill 18 = .ok (.invokestatic 47, 3) := by decide +kernel
theorem dX8_fill_21 : decode cX8_fill 21 = .ok (.ifCond .eq 14, 3) := by decide +kernel
theorem dX8_fill_24 : decode cX8_fill 24 = .ok (.iload 4, 2) := by decide +kernel
theorem dX8_fill_26 : decode cX8_fill 26 = .ok (.iconst 1, 1) := by decide +kernel
theorem dX8_fill_27 : decode cX8_fill 27 = .ok (.ldc 109, 2) := by decide +kernel
theorem dX8_fill_29 : decode cX8_fill 29 = .ok (.invokestatic 47, 3) := by decide +kernel
theorem dX8_fill_32 : decode cX8_fill 32 = .ok (.ifCond .ne 10, 3) := by decide +kernel
theorem dX8_fill_35 : decode cX8_fill 35 = .ok (.aload_n 0, 1) := by decide +kernel
theorem dX8_fill_36 : decode cX8_fill 36 = .ok (.ldc 72, 2) := by decide +kernel
theorem dX8_fill_38 : decode cX8_fill 38 = .ok (.invokevirtual 73, 3) := by decide +kernel
theorem dX8_fill_41 : decode cX8_fill 41 = .ok (.ireturn, 1) := by decide +kernel
theorem dX8_fill_42 : decode cX8_fill 42 = .ok (.aload_n 0, 1) := by decide +kernel
theorem dX8_fill_43 : decode cX8_fill 43 = .ok (.getfield 9, 3) := by decide +kernel
theorem dX8_fill_46 : decode cX8_fill 46 = .ok (.bipush 6, 2) := by decide +kernel
theorem dX8_fill_48 : decode cX8_fill 48 = .ok (.iload_n 2, 1) := by decide +kernel
theorem dX8_fill_49 : decode cX8_fill 49 = .ok (.iadd, 1) := by decide +kernel
theorem dX8_fill_50 : decode cX8_fill 50 = .ok (.iaload, 1) := by decide +kernel
theorem dX8_fill_51 : decode cX8_fill 51 = .ok (.istore 5, 2) := by decide +kernel
theorem dX8_fill_53 : decode cX8_fill 53 = .ok (.iload 4, 2) := by decide +kernel
theorem dX8_fill_55 : decode cX8_fill 55 = .ok (.aload_n 0, 1) := by decide +kernel
theorem dX8_fill_56 : decode cX8_fill 56 = .ok (.iload 5, 2) := by decide +kernel
theorem dX8_fill_58 : decode cX8_fill 58 = .ok (.iload_n 3, 1) := by decide +kernel
theorem dX8_fill_59 : decode cX8_fill 59 = .ok (.invokevirtual 62, 3) := by decide +kernel
theorem dX8_fill_62 : decode cX8_fill 62 = .ok (.iconst (-1), 1) := by decide +kernel
theorem dX8_fill_63 : decode cX8_fill 63 = .ok (.ixor, 1) := by decide +kernel
theorem dX8_fill_64 : decode cX8_fill 64 = .ok (.iand, 1) := by decide +kernel
theorem dX8_fill_65 : decode cX8_fill 65 = .ok (.ifCond .eq 10, 3) := by decide +kernel
theorem dX8_fill_68 : decode cX8_fill 68 = .ok (.aload_n 0, 1) := by decide +kernel
theorem dX8_fill_69 : decode cX8_fill 69 = .ok (.ldc 110, 2) := by decide +kernel
theorem dX8_fill_71 : decode cX8_fill 71 = .ok (.invokevirtual 73, 3) := by decide +kernel
theorem dX8_fill_74 : decode cX8_fill 74 = .ok (.ireturn, 1) := by decide +kernel
theorem dX8_fill_75 : decode cX8_fill 75 = .ok (.aload_n 0, 1) := by decide +kernel
theorem dX8_fill_76 : decode cX8_fill 76 = .ok (.getfield 9, 3) := by decide +kernel
theorem dX8_fill_79 : decode cX8_fill 79 = .ok (.iconst 3, 1) := by decide +kernel
theorem dX8_fill_80 : decode cX8_fill 80 = .ok (.iaload, 1) := by decide +kernel
theorem dX8_fill_81 : decode cX8_fill 81 = .ok (.istore 6, 2) := by decide +kernel
theorem dX8_fill_83 : decode cX8_fill 83 = .ok (.iload 6, 2) := by decide +kernel
theorem dX8_fill_85 : decode cX8_fill 85 = .ok (.bipush 8, 2) := by decide +kernel
theorem dX8_fill_87 : decode cX8_fill 87 = .ok (.if_icmp .ne 10, 3) := by decide +kernel
theorem dX8_fill_90 : decode cX8_fill 90 = .ok (.aload_n 0, 1) := by decide +kernel
theorem dX8_fill_91 : decode cX8_fill 91 = .ok (.ldc 85, 2) := by decide +kernel
theorem dX8_fill_93 : decode cX8_fill 93 = .ok (.invokevirtual 73, 3) := by decide +kernel
theorem dX8_fill_96 : decode cX8_fill 96 = .ok (.ireturn, 1) := by decide +kernel
theorem dX8_fill_97 : decode cX8_fill 97 = .ok (.aload_n 0, 1) := by decide +kernel
theorem dX8_fill_98 : decode cX8_fill 98 = .ok (.getfield 9, 3) := by decide +kernel
theorem dX8_fill_101 : decode cX8_fill 101 = .ok (.iconst 3, 1) := by decide +kernel
theorem dX8_fill_102 : decode cX8_fill 102 = .ok (.dup2, 1) := by decide +kernel
theorem dX8_fill_103 : decode cX8_fill 103 = .ok (.iaload, 1) := by decide +kernel
theorem dX8_fill_104 : decode cX8_fill 104 = .ok (.iconst 1, 1) := by decide +kernel
theorem dX8_fill_105 : decode cX8_fill 105 = .ok (.iadd, 1) := by decide +kernel
theorem dX8_fill_106 : decode cX8_fill 106 = .ok (.iastore, 1) := by decide +kernel
theorem dX8_fill_107 : decode cX8_fill 107 = .ok (.aload_n 0, 1) := by decide +kernel
theorem dX8_fill_108 : decode cX8_fill 108 = .ok (.iload 6, 2) := by decide +kernel
theorem dX8_fill_110 : decode cX8_fill 110 = .ok (.iconst 0, 1) := by decide +kernel
theorem dX8_fill_111 : decode cX8_fill 111 = .ok (.iload_n 1, 1) := by decide +kernel
theorem dX8_fill_112 : decode cX8_fill 112 = .ok (.bipush 10, 2) := by decide +kernel
theorem dX8_fill_114 : decode cX8_fill 114 = .ok (.idiv, 1) := by decide +kernel
theorem dX8_fill_115 : decode cX8_fill 115 = .ok (.invokevirtual 111, 3) := by decide +kernel
theorem dX8_fill_118 : decode cX8_fill 118 = .ok (.aload_n 0, 1) := by decide +kernel
theorem dX8_fill_119 : decode cX8_fill 119 = .ok (.iload 6, 2) := by decide +kernel
theorem dX8_fill_121 : decode cX8_fill 121 = .ok (.iconst 1, 1) := by decide +kernel
theorem dX8_fill_122 : decode cX8_fill 122 = .ok (.iload_n 1, 1) := by decide +kernel
theorem dX8_fill_123 : decode cX8_fill 123 = .ok (.bipush 10, 2) := by decide +kernel
theorem dX8_fill_125 : decode cX8_fill 125 = .ok (.irem, 1) := by decide +kernel
theorem dX8_fill_126 : decode cX8_fill 126 = .ok (.invokevirtual 111, 3) := by decide +kernel
theorem dX8_fill_129 : decode cX8_fill 129 = .ok (.aload_n 0, 1) := by decide +kernel
theorem dX8_fill_130 : decode cX8_fill 130 = .ok (.iload 6, 2) := by decide +kernel
theorem dX8_fill_132 : decode cX8_fill 132 = .ok (.iconst 2, 1) := by decide +kernel
theorem dX8_fill_133 : decode cX8_fill 133 = .ok (.iload 5, 2) := by decide +kernel
theorem dX8_fill_135 : decode cX8_fill 135 = .ok (.invokevirtual 111, 3) := by decide +kernel
theorem dX8_fill_138 : decode cX8_fill 138 = .ok (.aload_n 0, 1) := by decide +kernel
theorem dX8_fill_139 : decode cX8_fill 139 = .ok (.iload 6, 2) := by decide +kernel
theorem dX8_fill_141 : decode cX8_fill 141 = .ok (.iconst 3, 1) := by decide +kernel
theorem dX8_fill_142 : decode cX8_fill 142 = .ok (.iload 4, 2) := by decide +kernel
theorem dX8_fill_144 : decode cX8_fill 144 = .ok (.invokevirtual 111, 3) := by decide +kernel
theorem dX8_fill_147 : decode cX8_fill 147 = .ok (.aload_n 0, 1) := by decide +kernel
theorem dX8_fill_148 : decode cX8_fill 148 = .ok (.iload 6, 2) := by decide +kernel
theorem dX8_fill_150 : decode cX8_fill 150 = .ok (.iconst 4, 1) := by decide +kernel
theorem dX8_fill_151 : decode cX8_fill 151 = .ok (.iconst 0, 1) := by decide +kernel
theorem dX8_fill_152 : decode cX8_fill 152 = .ok (.invokevirtual 111, 3) := by decide +kernel
theorem dX8_fill_155 : decode cX8_fill 155 = .ok (.aload_n 0, 1) := by decide +kernel
theorem dX8_fill_156 : decode cX8_fill 156 = .ok (.iload 6, 2) := by decide +kernel
theorem dX8_fill_158 : decode cX8_fill 158 = .ok (.iconst 5, 1) := by decide +kernel
theorem dX8_fill_159 : decode cX8_fill 159 = .ok (.iconst 0, 1) := by decide +kernel
theorem dX8_fill_160 : decode cX8_fill 160 = .ok (.invokevirtual 111, 3) := by decide +kernel
theorem dX8_fill_163 : decode cX8_fill 163 = .ok (.iconst 0, 1) := by decide +kernel
theorem dX8_fill_164 : decode cX8_fill 164 = .ok (.istore 7, 2) := by decide +kernel
theorem dX8_fill_166 : decode cX8_fill 166 = .ok (.iload 7, 2) := by decide +kernel
theorem dX8_fill_168 : decode cX8_fill 168 = .ok (.bipush 20, 2) := by decide +kernel
theorem dX8_fill_170 : decode cX8_fill 170 = .ok (.if_icmp .ge 58, 3) := by decide +kernel
theorem dX8_fill_173 : decode cX8_fill 173 = .ok (.iload 4, 2) := by decide +kernel
theorem dX8_fill_175 : decode cX8_fill 175 = .ok (.iload 7, 2) := by decide +kernel
theorem dX8_fill_177 : decode cX8_fill 177 = .ok (.ishr, 1) := by decide +kernel
theorem dX8_fill_178 : decode cX8_fill 178 = .ok (.iconst 1, 1) := by decide +kernel
theorem dX8_fill_179 : decode cX8_fill 179 = .ok (.iand, 1) := by decide +kernel
theorem dX8_fill_180 : decode cX8_fill 180 = .ok (.iconst 1, 1) := by decide +kernel
theorem dX8_fill_181 : decode cX8_fill 181 = .ok (.if_icmp .ne 41, 3) := by decide +kernel
theorem dX8_fill_184 : decode cX8_fill 184 = .ok (.aload_n 0, 1) := by decide +kernel
theorem dX8_fill_185 : decode cX8_fill 185 = .ok (.getfield 9, 3) := by decide +kernel
theorem dX8_fill_188 : decode cX8_fill 188 = .ok (.bipush 31, 2) := by decide +kernel
theorem dX8_fill_190 : decode cX8_fill 190 = .ok (.iload 7, 2) := by decide +kernel
theorem dX8_fill_192 : decode cX8_fill 192 = .ok (.iadd, 1) := by decide +kernel
theorem dX8_fill_193 : decode cX8_fill 193 = .ok (.aload_n 0, 1) := by decide +kernel
theorem dX8_fill_194 : decode cX8_fill 194 = .ok (.iconst 0, 1) := by decide +kernel
theorem dX8_fill_195 : decode cX8_fill 195 = .ok (.aload_n 0, 1) := by decide +kernel
theorem dX8_fill_196 : decode cX8_fill 196 = .ok (.getfield 9, 3) := by decide +kernel
theorem dX8_fill_199 : decode cX8_fill 199 = .ok (.bipush 11, 2) := by decide +kernel
theorem dX8_fill_201 : decode cX8_fill 201 = .ok (.iload 7, 2) := by decide +kernel
theorem dX8_fill_203 : decode cX8_fill 203 = .ok (.iadd, 1) := by decide +kernel
theorem dX8_fill_204 : decode cX8_fill 204 = .ok (.iaload, 1) := by decide +kernel
theorem dX8_fill_205 : decode cX8_fill 205 = .ok (.iload 5, 2) := by decide +kernel
theorem dX8_fill_207 : decode cX8_fill 207 = .ok (.iload 7, 2) := by decide +kernel
theorem dX8_fill_209 : decode cX8_fill 209 = .ok (.invokestatic 55, 3) := by decide +kernel
theorem dX8_fill_212 : decode cX8_fill 212 = .ok (.aload_n 0, 1) := by decide +kernel
theorem dX8_fill_213 : decode cX8_fill 213 = .ok (.getfield 9, 3) := by decide +kernel
theorem dX8_fill_216 : decode cX8_fill 216 = .ok (.iconst 0, 1) := by decide +kernel
theorem dX8_fill_217 : decode cX8_fill 217 = .ok (.iaload, 1) := by decide +kernel
theorem dX8_fill_218 : decode cX8_fill 218 = .ok (.invokevirtual 102, 3) := by decide +kernel
theorem dX8_fill_221 : decode cX8_fill 221 = .ok (.iastore, 1) := by decide +kernel
theorem dX8_fill_222 : decode cX8_fill 222 = .ok (.iinc 7 1, 3) := by decide +kernel
theorem dX8_fill_225 : decode cX8_fill 225 = .ok (.goto (-59), 3) := by decide +kernel
theorem dX8_fill_228 : decode cX8_fill 228 = .ok (.iload 6, 2) := by decide +kernel
theorem dX8_fill_230 : decode cX8_fill 230 = .ok (.ireturn, 1) := by decide +kernel
theorem dX8_ofBottle_0 : decode cX8_ofBottle 0 = .ok (.aload_n 0, 1) := by decide +kernel
theorem dX8_ofBottle_1 : decode cX8_ofBottle 1 = .ok (.iload_n 1, 1) := by decide +kernel
theorem dX8_ofBottle_2 : decode cX8_ofBottle 2 = .ok (.invokevirtual 115, 3) := by decide +kernel
theorem dX8_ofBottle_5 : decode cX8_ofBottle 5 = .ok (.ifCond .eq 13, 3) := by decide +kernel
theorem dX8_ofBottle_8 : decode cX8_ofBottle 8 = .ok (.iload_n 2, 1) := by decide +kernel
theorem dX8_ofBottle_9 : decode cX8_ofBottle 9 = .ok (.iconst 0, 1) := by decide +kernel
theorem dX8_ofBottle_10 : decode cX8_ofBottle 10 = .ok (.bipush 8, 2) := by decide +kernel
theorem dX8_ofBottle_12 : decode cX8_ofBottle 12 = .ok (.invokestatic 47, 3) := by decide +kernel
theorem dX8_ofBottle_15 : decode cX8_ofBottle 15 = .ok (.ifCond .ne 10, 3) := by decide +kernel
theorem dX8_ofBottle_18 : decode cX8_ofBottle 18 = .ok (.aload_n 0, 1) := by decide +kernel
theorem dX8_ofBottle_19 : decode cX8_ofBottle 19 = .ok (.ldc 72, 2) := by decide +kernel
theorem dX8_ofBottle_21 : decode cX8_ofBottle 21 = .ok (.invokevirtual 73, 3) := by decide +kernel
theorem dX8_ofBottle_24 : decode cX8_ofBottle 24 = .ok (.ireturn, 1) := by decide +kernel
theorem dX8_ofBottle_25 : decode cX8_ofBottle 25 = .ok (.iload_n 2, 1) := by decide +kernel
theorem dX8_ofBottle_26 : decode cX8_ofBottle 26 = .ok (.bipush 6, 2) := by decide +kernel
theorem dX8_ofBottle_28 : decode cX8_ofBottle 28 = .ok (.if_icmp .ge 12, 3) := by decide +kernel
theorem dX8_ofBottle_31 : decode cX8_ofBottle 31 = .ok (.aload_n 0, 1) := by decide +kernel
theorem dX8_ofBottle_32 : decode cX8_ofBottle 32 = .ok (.iload_n 1, 1) := by decide +kernel
theorem dX8_ofBottle_33 : decode cX8_ofBottle 33 = .ok (.iload_n 2, 1) := by decide +kernel
theorem dX8_ofBottle_34 : decode cX8_ofBottle 34 = .ok (.invokevirtual 89, 3) := by decide +kernel
theorem dX8_ofBottle_37 : decode cX8_ofBottle 37 = .ok (.goto 36, 3) := by decide +kernel
theorem dX8_ofBottle_40 : decode cX8_ofBottle 40 = .ok (.iload_n 2, 1) := by decide +kernel
theorem dX8_ofBottle_41 : decode cX8_ofBottle 41 = .ok (.bipush 6, 2) := by decide +kernel
theorem dX8_ofBottle_43 : decode cX8_ofBottle 43 = .ok (.if_icmp .ne 11, 3) := by decide +kernel
theorem dX8_ofBottle_46 : decode cX8_ofBottle 46 = .ok (.aload_n 0, 1) := by decide +kernel
theorem dX8_ofBottle_47 : decode cX8_ofBottle 47 = .ok (.iload_n 1, 1) := by decide +kernel
theorem dX8_ofBottle_48 : decode cX8_ofBottle 48 = .ok (.invokevirtual 96, 3) := by decide +kernel
theorem dX8_ofBottle_51 : decode cX8_ofBottle 51 = .ok (.goto 22, 3) := by decide +kernel
theorem dX8_ofBottle_54 : decode cX8_ofBottle 54 = .ok (.iload_n 2, 1) := by decide +kernel
theorem dX8_ofBottle_55 : decode cX8_ofBottle 55 = .ok (.bipush 7, 2) := by decide +kernel
theorem dX8_ofBottle_57 : decode cX8_ofBottle 57 = .ok (.if_icmp .ne 11, 3) := by decide +kernel
theorem dX8_ofBottle_60 : decode cX8_ofBottle 60 = .ok (.aload_n 0, 1) := by decide +kernel
theorem dX8_ofBottle_61 : decode cX8_ofBottle 61 = .ok (.iload_n 1, 1) := by decide +kernel
theorem dX8_ofBottle_62 : decode cX8_ofBottle 62 = .ok (.invokevirtual 99, 3) := by decide +kernel
theorem dX8_ofBottle_65 : decode cX8_ofBottle 65 = .ok (.goto 8, 3) := by decide +kernel
theorem dX8_ofBottle_68 : decode cX8_ofBottle 68 = .ok (.aload_n 0, 1) := by decide +kernel
theorem dX8_ofBottle_69 : decode cX8_ofBottle 69 = .ok (.iload_n 1, 1) := by decide +kernel
theorem dX8_ofBottle_70 : decode cX8_ofBottle 70 = .ok (.invokevirtual 118, 3) := by decide +kernel
theorem dX8_ofBottle_73 : decode cX8_ofBottle 73 = .ok (.ireturn, 1) := by decide +kernel
theorem dX8_become_0 : decode cX8_become 0 = .ok (.aload_n 0, 1) := by decide +kernel
theorem dX8_become_1 : decode cX8_become 1 = .ok (.iload_n 1, 1) := by decide +kernel
theorem dX8_become_2 : decode cX8_become 2 = .ok (.invokevirtual 115, 3) := by decide +kernel
theorem dX8_become_5 : decode cX8_become 5 = .ok (.ifCond .eq 10, 3) := by decide +kernel
theorem dX8_become_8 : decode cX8_become 8 = .ok (.iload_n 2, 1) := by decide +kernel
theorem dX8_become_9 : decode cX8_become 9 = .ok (.invokestatic 106, 3) := by decide +kernel
theorem dX8_become_12 : decode cX8_become 12 = .ok (.ifCond .ne 10, 3) := by decide +kernel
theorem dX8_become_15 : decode cX8_become 15 = .ok (.aload_n 0, 1) := by decide +kernel
theorem dX8_become_16 : decode cX8_become 16 = .ok (.ldc 72, 2) := by decide +kernel
theorem dX8_become_18 : decode cX8_become 18 = .ok (.invokevirtual 73, 3) := by decide +kernel
theorem dX8_become_21 : decode cX8_become 21 = .ok (.ireturn, 1) := by decide +kernel
theorem dX8_become_22 : decode cX8_become 22 = .ok (.aload_n 0, 1) := by decide +kernel
theorem dX8_become_23 : decode cX8_become 23 = .ok (.iload_n 1, 1) := by decide +kernel
theorem dX8_become_24 : decode cX8_become 24 = .ok (.iconst 1, 1) := by decide +kernel
theorem dX8_become_25 : decode cX8_become 25 = .ok (.iload_n 2, 1) := by decide +kernel
theorem dX8_become_26 : decode cX8_become 26 = .ok (.bipush 10, 2) := by decide +kernel
theorem dX8_become_28 : decode cX8_become 28 = .ok (.irem, 1) := by decide +kernel
theorem dX8_become_29 : decode cX8_become 29 = .ok (.invokevirtual 111, 3) := by decide +kernel
theorem dX8_become_32 : decode cX8_become 32 = .ok (.aload_n 0, 1) := by decide +kernel
theorem dX8_become_33 : decode cX8_become 33 = .ok (.bipush 51, 2) := by decide +kernel
theorem dX8_become_35 : decode cX8_become 35 = .ok (.bipush 6, 2) := by decide +kernel
theorem dX8_become_37 : decode cX8_become 37 = .ok (.iload_n 1, 1) := by decide +kernel
theorem dX8_become_38 : decode cX8_become 38 = .ok (.imul, 1) := by decide +kernel
theorem dX8_become_39 : decode cX8_become 39 = .ok (.iadd, 1) := by decide +kernel
theorem dX8_become_40 : decode cX8_become 40 = .ok (.iload_n 2, 1) := by decide +kernel
theorem dX8_become_41 : decode cX8_become 41 = .ok (.bipush 10, 2) := by decide +kernel
theorem dX8_become_43 : decode cX8_become 43 = .ok (.idiv, 1) := by decide +kernel
theorem dX8_become_44 : decode cX8_become 44 = .ok (.invokevirtual 76, 3) := by decide +kernel
theorem dX8_become_47 : decode cX8_become 47 = .ok (.ireturn, 1) := by decide +kernel
theorem dX8_isUnder_0 : decode cX8_isUnder 0 = .ok (.iload_n 1, 1) := by decide +kernel
theorem dX8_isUnder_1 : decode cX8_isUnder 1 = .ok (.ifCond .eq 39, 3) := by decide +kernel
theorem dX8_isUnder_4 : decode cX8_isUnder 4 = .ok (.iload_n 0, 1) := by decide +kernel
theorem dX8_isUnder_5 : decode cX8_isUnder 5 = .ok (.iload_n 1, 1) := by decide +kernel
theorem dX8_isUnder_6 : decode cX8_isUnder 6 = .ok (.if_icmp .eq 34, 3) := by decide +kernel
theorem dX8_isUnder_9 : decode cX8_isUnder 9 = .ok (.iload_n 1, 1) := by decide +kernel
theorem dX8_isUnder_10 : decode cX8_isUnder 10 = .ok (.iconst 1, 1) := by decide +kernel
theorem dX8_isUnder_11 : decode cX8_isUnder 11 = .ok (.if_icmp .ne 8, 3) := by decide +kernel
theorem dX8_isUnder_14 : decode cX8_isUnder 14 = .ok (.iload_n 0, 1) := by decide +kernel
theorem dX8_isUnder_15 : decode cX8_isUnder 15 = .ok (.iconst 4, 1) := by decide +kernel
theorem dX8_isUnder_16 : decode cX8_isUnder 16 = .ok (.if_icmp .eq 24, 3) := by decide +kernel
theorem dX8_isUnder_19 : decode cX8_isUnder 19 = .ok (.iload_n 1, 1) := by decide +kernel
theorem dX8_isUnder_20 : decode cX8_isUnder 20 = .ok (.iconst 2, 1) := by decide +kernel
theorem dX8_isUnder_21 : decode cX8_isUnder 21 = .ok (.if_icmp .ne 8, 3) := by decide +kernel
theorem dX8_isUnder_24 : decode cX8_isUnder 24 = .ok (.iload_n 0, 1) := by decide +kernel
theorem dX8_isUnder_25 : decode cX8_isUnder 25 = .ok (.iconst 5, 1) := by decide +kernel
theorem dX8_isUnder_26 : decode cX8_isUnder 26 = .ok (.if_icmp .eq 14, 3) := by decide +kernel
theorem dX8_isUnder_29 : decode cX8_isUnder 29 = .ok (.iload_n 1, 1) := by decide +kernel
theorem dX8_isUnder_30 : decode cX8_isUnder 30 = .ok (.iconst 3, 1) := by decide +kernel
theorem dX8_isUnder_31 : decode cX8_isUnder 31 = .ok (.if_icmp .ne 13, 3) := by decide +kernel
theorem dX8_isUnder_34 : decode cX8_isUnder 34 = .ok (.iload_n 0, 1) := by decide +kernel
theorem dX8_isUnder_35 : decode cX8_isUnder 35 = .ok (.bipush 6, 2) := by decide +kernel
theorem dX8_isUnder_37 : decode cX8_isUnder 37 = .ok (.if_icmp .ne 7, 3) := by decide +kernel
theorem dX8_isUnder_40 : decode cX8_isUnder 40 = .ok (.iconst 1, 1) := by decide +kernel
theorem dX8_isUnder_41 : decode cX8_isUnder 41 = .ok (.goto 4, 3) := by decide +kernel
theorem dX8_isUnder_44 : decode cX8_isUnder 44 = .ok (.iconst 0, 1) := by decide +kernel
theorem dX8_isUnder_45 : decode cX8_isUnder 45 = .ok (.ireturn, 1) := by decide +kernel
theorem dX8_as_0 : decode cX8_as 0 = .ok (.aload_n 0, 1) := by decide +kernel
theorem dX8_as_1 : decode cX8_as 1 = .ok (.iload_n 1, 1) := by decide +kernel
theorem dX8_as_2 : decode cX8_as 2 = .ok (.invokevirtual 115, 3) := by decide +kernel
theorem dX8_as_5 : decode cX8_as 5 = .ok (.ifCond .eq 13, 3) := by decide +kernel
theorem dX8_as_8 : decode cX8_as 8 = .ok (.iload_n 2, 1) := by decide +kernel
theorem dX8_as_9 : decode cX8_as 9 = .ok (.iconst 0, 1) := by decide +kernel
theorem dX8_as_10 : decode cX8_as 10 = .ok (.bipush 6, 2) := by decide +kernel
theorem dX8_as_12 : decode cX8_as 12 = .ok (.invokestatic 47, 3) := by decide +kernel
theorem dX8_as_15 : decode cX8_as 15 = .ok (.ifCond .ne 10, 3) := by decide +kernel
theorem dX8_as_18 : decode cX8_as 18 = .ok (.aload_n 0, 1) := by decide +kernel
theorem dX8_as_19 : decode cX8_as 19 = .ok (.ldc 72, 2) := by decide +kernel
theorem dX8_as_21 : decode cX8_as 21 = .ok (.invokevirtual 73, 3) := by decide +kernel
theorem dX8_as_24 : decode cX8_as 24 = .ok (.ireturn, 1) := by decide +kernel
theorem dX8_as_25 : decode cX8_as 25 = .ok (.aload_n 0, 1) := by decide +kernel
theorem dX8_as_26 : decode cX8_as 26 = .ok (.iload_n 1, 1) := by decide +kernel
theorem dX8_as_27 : decode cX8_as 27 = .ok (.iconst 0, 1) := by decide +kernel
theorem dX8_as_28 : decode cX8_as 28 = .ok (.invokevirtual 89, 3) := by decide +kernel
theorem dX8_as_31 : decode cX8_as 31 = .ok (.iload_n 2, 1) := by decide +kernel
theorem dX8_as_32 : decode cX8_as 32 = .ok (.invokestatic 121, 3) := by decide +kernel
theorem dX8_as_35 : decode cX8_as 35 = .ok (.ifCond .eq 12, 3) := by decide +kernel
theorem dX8_as_38 : decode cX8_as 38 = .ok (.aload_n 0, 1) := by decide +kernel
theorem dX8_as_39 : decode cX8_as 39 = .ok (.iload_n 1, 1) := by decide +kernel
theorem dX8_as_40 : decode cX8_as 40 = .ok (.iconst 1, 1) := by decide +kernel
theorem dX8_as_41 : decode cX8_as 41 = .ok (.invokevirtual 89, 3) := by decide +kernel
theorem dX8_as_44 : decode cX8_as 44 = .ok (.goto 9, 3) := by decide +kernel
theorem dX8_as_47 : decode cX8_as 47 = .ok (.aload_n 0, 1) := by decide +kernel
theorem dX8_as_48 : decode cX8_as 48 = .ok (.ldc 125, 2) := by decide +kernel
theorem dX8_as_50 : decode cX8_as 50 = .ok (.invokevirtual 73, 3) := by decide +kernel
theorem dX8_as_53 : decode cX8_as 53 = .ok (.ireturn, 1) := by decide +kernel
theorem dX8_open_0 : decode cX8_open 0 = .ok (.aload_n 0, 1) := by decide +kernel
theorem dX8_open_1 : decode cX8_open 1 = .ok (.iload_n 1, 1) := by decide +kernel
theorem dX8_open_2 : decode cX8_open 2 = .ok (.invokevirtual 115, 3) := by decide +kernel
theorem dX8_open_5 : decode cX8_open 5 = .ok (.ifCond .ne 10, 3) := by decide +kernel
theorem dX8_open_8 : decode cX8_open 8 = .ok (.aload_n 0, 1) := by decide +kernel
theorem dX8_open_9 : decode cX8_open 9 = .ok (.ldc 72, 2) := by decide +kernel
theorem dX8_open_11 : decode cX8_open 11 = .ok (.invokevirtual 73, 3) := by decide +kernel
theorem dX8_open_14 : decode cX8_open 14 = .ok (.ireturn, 1) := by decide +kernel
theorem dX8_open_15 : decode cX8_open 15 = .ok (.aload_n 0, 1) := by decide +kernel
theorem dX8_open_16 : decode cX8_open 16 = .ok (.iload_n 1, 1) := by decide +kernel
theorem dX8_open_17 : decode cX8_open 17 = .ok (.iconst 5, 1) := by decide +kernel
theorem dX8_open_18 : decode cX8_open 18 = .ok (.invokevirtual 89, 3) := by decide +kernel
theorem dX8_open_21 : decode cX8_open 21 = .ok (.iconst 1, 1) := by decide +kernel
theorem dX8_open_22 : decode cX8_open 22 = .ok (.if_icmp .ne 10, 3) := by decide +kernel
theorem dX8_open_25 : decode cX8_open 25 = .ok (.aload_n 0, 1) := by decide +kernel
theorem dX8_open_26 : decode cX8_open 26 = .ok (.ldc 110, 2) := by decide +kernel
theorem dX8_open_28 : decode cX8_open 28 = .ok (.invokevirtual 73, 3) := by decide +kernel
theorem dX8_open_31 : decode cX8_open 31 = .ok (.ireturn, 1) := by decide +kernel
theorem dX8_open_32 : decode cX8_open 32 = .ok (.aload_n 0, 1) := by decide +kernel
theorem dX8_open_33 : decode cX8_open 33 = .ok (.iload_n 1, 1) := by decide +kernel
theorem dX8_open_34 : decode cX8_open 34 = .ok (.invokevirtual 96, 3) := by decide +kernel
theorem dX8_open_37 : decode cX8_open 37 = .ok (.istore_n 2, 1) := by decide +kernel
theorem dX8_open_38 : decode cX8_open 38 = .ok (.iconst 0, 1) := by decide +kernel
theorem dX8_open_39 : decode cX8_open 39 = .ok (.istore_n 3, 1) := by decide +kernel
theorem dX8_open_40 : decode cX8_open 40 = .ok (.iconst 0, 1) := by decide +kernel
theorem dX8_open_41 : decode cX8_open 41 = .ok (.istore 4, 2) := by decide +kernel
theorem dX8_open_43 : decode cX8_open 43 = .ok (.iload 4, 2) := by decide +kernel
theorem dX8_open_45 : decode cX8_open 45 = .ok (.bipush 20, 2) := by decide +kernel
theorem dX8_open_47 : decode cX8_open 47 = .ok (.if_icmp .ge 77, 3) := by decide +kernel
theorem dX8_open_50 : decode cX8_open 50 = .ok (.iload_n 2, 1) := by decide +kernel
theorem dX8_open_51 : decode cX8_open 51 = .ok (.iload 4, 2) := by decide +kernel
theorem dX8_open_53 : decode cX8_open 53 = .ok (.ishr, 1) := by decide +kernel
theorem dX8_open_54 : decode cX8_open 54 = .ok (.iconst 1, 1) := by decide +kernel
theorem dX8_open_55 : decode cX8_open 55 = .ok (.iand, 1) := by decide +kernel
theorem dX8_open_56 : decode cX8_open 56 = .ok (.iconst 1, 1) := by decide +kernel
theorem dX8_open_57 : decode cX8_open 57 = .ok (.if_icmp .ne 16, 3) := by decide +kernel
theorem dX8_open_60 : decode cX8_open 60 = .ok (.aload_n 0, 1) := by decide +kernel
theorem dX8_open_61 : decode cX8_open 61 = .ok (.iload 4, 2) := by decide +kernel
theorem dX8_open_63 : decode cX8_open 63 = .ok (.invokevirtual 51, 3) := by decide +kernel
theorem dX8_open_66 : decode cX8_open 66 = .ok (.ifCond .ne 7, 3) := by decide +kernel
theorem dX8_open_69 : decode cX8_open 69 = .ok (.iconst 1, 1) := by decide +kernel
theorem dX8_open_70 : decode cX8_open 70 = .ok (.goto 4, 3) := by decide +kernel
theorem dX8_open_73 : decode cX8_open 73 = .ok (.iconst 0, 1) := by decide +kernel
theorem dX8_open_74 : decode cX8_open 74 = .ok (.istore 5, 2) := by decide +kernel
theorem dX8_open_76 : decode cX8_open 76 = .ok (.iload_n 3, 1) := by decide +kernel
theorem dX8_open_77 : decode cX8_open 77 = .ok (.iload 5, 2) := by decide +kernel
theorem dX8_open_79 : decode cX8_open 79 = .ok (.ifCond .eq 7, 3) := by decide +kernel
theorem dX8_open_82 : decode cX8_open 82 = .ok (.iconst 1, 1) := by decide +kernel
theorem dX8_open_83 : decode cX8_open 83 = .ok (.goto 4, 3) := by decide +kernel
theorem dX8_open_86 : decode cX8_open 86 = .ok (.iconst 0, 1) := by decide +kernel
theorem dX8_open_87 : decode cX8_open 87 = .ok (.iadd, 1) := by decide +kernel
theorem dX8_open_88 : decode cX8_open 88 = .ok (.istore_n 3, 1) := by decide +kernel
theorem dX8_open_89 : decode cX8_open 89 = .ok (.aload_n 0, 1) := by decide +kernel
theorem dX8_open_90 : decode cX8_open 90 = .ok (.getfield 9, 3) := by decide +kernel
theorem dX8_open_93 : decode cX8_open 93 = .ok (.bipush 31, 2) := by decide +kernel
theorem dX8_open_95 : decode cX8_open 95 = .ok (.iload 4, 2) := by decide +kernel
theorem dX8_open_97 : decode cX8_open 97 = .ok (.iadd, 1) := by decide +kernel
theorem dX8_open_98 : decode cX8_open 98 = .ok (.iload 5, 2) := by decide +kernel
theorem dX8_open_100 : decode cX8_open 100 = .ok (.ifCond .eq 7, 3) := by decide +kernel
theorem dX8_open_103 : decode cX8_open 103 = .ok (.iconst 0, 1) := by decide +kernel
theorem dX8_open_104 : decode cX8_open 104 = .ok (.goto 13, 3) := by decide +kernel
theorem dX8_open_107 : decode cX8_open 107 = .ok (.aload_n 0, 1) := by decide +kernel
theorem dX8_open_108 : decode cX8_open 108 = .ok (.getfield 9, 3) := by decide +kernel
theorem dX8_open_111 : decode cX8_open 111 = .ok (.bipush 31, 2) := by decide +kernel
theorem dX8_open_113 : decode cX8_open 113 = .ok (.iload 4, 2) := by decide +kernel
theorem dX8_open_115 : decode cX8_open 115 = .ok (.iadd, 1) := by decide +kernel
theorem dX8_open_116 : decode cX8_open 116 = .ok (.iaload, 1) := by decide +kernel
theorem dX8_open_117 : decode cX8_open 117 = .ok (.iastore, 1) := by decide +kernel
theorem dX8_open_118 : decode cX8_open 118 = .ok (.iinc 4 1, 3) := by decide +kernel
theorem dX8_open_121 : decode cX8_open 121 = .ok (.goto (-78), 3) := by decide +kernel
theorem dX8_open_124 : decode cX8_open 124 = .ok (.aload_n 0, 1) := by decide +kernel
theorem dX8_open_125 : decode cX8_open 125 = .ok (.iload_n 1, 1) := by decide +kernel
theorem dX8_open_126 : decode cX8_open 126 = .ok (.iconst 3, 1) := by decide +kernel
theorem dX8_open_127 : decode cX8_open 127 = .ok (.iconst 0, 1) := by decide +kernel
theorem dX8_open_128 : decode cX8_open 128 = .ok (.invokevirtual 111, 3) := by decide +kernel
theorem dX8_open_131 : decode cX8_open 131 = .ok (.aload_n 0, 1) := by decide +kernel
theorem dX8_open_132 : decode cX8_open 132 = .ok (.iload_n 1, 1) := by decide +kernel
theorem dX8_open_133 : decode cX8_open 133 = .ok (.iconst 5, 1) := by decide +kernel
theorem dX8_open_134 : decode cX8_open 134 = .ok (.iconst 1, 1) := by decide +kernel
theorem dX8_open_135 : decode cX8_open 135 = .ok (.invokevirtual 111, 3) := by decide +kernel
theorem dX8_open_138 : decode cX8_open 138 = .ok (.iload_n 3, 1) := by decide +kernel
theorem dX8_open_139 : decode cX8_open 139 = .ok (.ireturn, 1) := by decide +kernel
theorem dX8_feed_0 : decode cX8_feed 0 = .ok (.iload_n 3, 1) := by decide +kernel
theorem dX8_feed_1 : decode cX8_feed 1 = .ok (.iconst 1, 1) := by decide +kernel
theorem dX8_feed_2 : decode cX8_feed 2 = .ok (.bipush 8, 2) := by decide +kernel
theorem dX8_feed_4 : decode cX8_feed 4 = .ok (.invokestatic 47, 3) := by decide +kernel
theorem dX8_feed_7 : decode cX8_feed 7 = .ok (.ifCond .ne 10, 3) := by decide +kernel
theorem dX8_feed_10 : decode cX8_feed 10 = .ok (.aload_n 0, 1) := by decide +kernel
theorem dX8_feed_11 : decode cX8_feed 11 = .ok (.ldc 72, 2) := by decide +kernel
theorem dX8_feed_13 : decode cX8_feed 13 = .ok (.invokevirtual 73, 3) := by decide +kernel
theorem dX8_feed_16 : decode cX8_feed 16 = .ok (.ireturn, 1) := by decide +kernel
theorem dX8_feed_17 : decode cX8_feed 17 = .ok (.aload_n 0, 1) := by decide +kernel
theorem dX8_feed_18 : decode cX8_feed 18 = .ok (.getfield 9, 3) := by decide +kernel
theorem dX8_feed_21 : decode cX8_feed 21 = .ok (.iconst 4, 1) := by decide +kernel
theorem dX8_feed_22 : decode cX8_feed 22 = .ok (.iaload, 1) := by decide +kernel
theorem dX8_feed_23 : decode cX8_feed 23 = .ok (.iload_n 3, 1) := by decide +kernel
theorem dX8_feed_24 : decode cX8_feed 24 = .ok (.iadd, 1) := by decide +kernel
theorem dX8_feed_25 : decode cX8_feed 25 = .ok (.bipush 50, 2) := by decide +kernel
theorem dX8_feed_27 : decode cX8_feed 27 = .ok (.if_icmp .le 10, 3) := by decide +kernel
theorem dX8_feed_30 : decode cX8_feed 30 = .ok (.aload_n 0, 1) := by decide +kernel
theorem dX8_feed_31 : decode cX8_feed 31 = .ok (.ldc 85, 2) := by decide +kernel
theorem dX8_feed_33 : decode cX8_feed 33 = .ok (.invokevirtual 73, 3) := by decide +kernel
theorem dX8_feed_36 : decode cX8_feed 36 = .ok (.ireturn, 1) := by decide +kernel
theorem dX8_feed_37 : decode cX8_feed 37 = .ok (.iconst 0, 1) := by decide +kernel
theorem dX8_feed_38 : decode cX8_feed 38 = .ok (.istore 4, 2) := by decide +kernel
theorem dX8_feed_40 : decode cX8_feed 40 = .ok (.iload 4, 2) := by decide +kernel
theorem dX8_feed_42 : decode cX8_feed 42 = .ok (.iload_n 3, 1) := by decide +kernel
theorem dX8_feed_43 : decode cX8_feed 43 = .ok (.if_icmp .ge 45, 3) := by decide +kernel
theorem dX8_feed_46 : decode cX8_feed 46 = .ok (.aload_n 0, 1) := by decide +kernel
theorem dX8_feed_47 : decode cX8_feed 47 = .ok (.getfield 9, 3) := by decide +kernel
theorem dX8_feed_50 : decode cX8_feed 50 = .ok (.bipush 99, 2) := by decide +kernel
theorem dX8_feed_52 : decode cX8_feed 52 = .ok (.aload_n 0, 1) := by decide +kernel
theorem dX8_feed_53 : decode cX8_feed 53 = .ok (.getfield 9, 3) := by decide +kernel
theorem dX8_feed_56 : decode cX8_feed 56 = .ok (.iconst 4, 1) := by decide +kernel
theorem dX8_feed_57 : decode cX8_feed 57 = .ok (.iaload, 1) := by decide +kernel
theorem dX8_feed_58 : decode cX8_feed 58 = .ok (.iadd, 1) := by decide +kernel
theorem dX8_feed_59 : decode cX8_feed 59 = .ok (.lload_n 1, 1) := by decide +kernel
theorem dX8_feed_60 : decode cX8_feed 60 = .ok (.bipush 8, 2) := by decide +kernel
theorem dX8_feed_62 : decode cX8_feed 62 = .ok (.iload 4, 2) := by decide +kernel
theorem dX8_feed_64 : decode cX8_feed 64 = .ok (.imul, 1) := by decide +kernel
theorem dX8_feed_65 : decode cX8_feed 65 = .ok (.lshr, 1) := by decide +kernel
theorem dX8_feed_66 : decode cX8_feed 66 = .ok (.ldc2_w 126, 3) := by decide +kernel
theorem dX8_feed_69 : decode cX8_feed 69 = .ok (.land, 1) := by decide +kernel
theorem dX8_feed_70 : decode cX8_feed 70 = .ok (.l2i, 1) := by decide +kernel
theorem dX8_feed_71 : decode cX8_feed 71 = .ok (.iastore, 1) := by decide +kernel
theorem dX8_feed_72 : decode cX8_feed 72 = .ok (.aload_n 0, 1) := by decide +kernel
theorem dX8_feed_73 : decode cX8_feed 73 = .ok (.getfield 9, 3) := by decide +kernel
theorem dX8_feed_76 : decode cX8_feed 76 = .ok (.iconst 4, 1) := by decide +kernel
theorem dX8_feed_77 : decode cX8_feed 77 = .ok (.dup2, 1) := by decide +kernel
theorem dX8_feed_78 : decode cX8_feed 78 = .ok (.iaload, 1) := by decide +kernel
theorem dX8_feed_79 : decode cX8_feed 79 = .ok (.iconst 1, 1) := by decide +kernel
theorem dX8_feed_80 : decode cX8_feed 80 = .ok (.iadd, 1) := by decide +kernel
theorem dX8_feed_81 : decode cX8_feed 81 = .ok (.iastore, 1) := by decide +kernel
theorem dX8_feed_82 : decode cX8_feed 82 = .ok (.iinc 4 1, 3) := by decide +kernel
theorem dX8_feed_85 : decode cX8_feed 85 = .ok (.goto (-45), 3) := by decide +kernel
theorem dX8_feed_88 : decode cX8_feed 88 = .ok (.aload_n 0, 1) := by decide +kernel
theorem dX8_feed_89 : decode cX8_feed 89 = .ok (.getfield 9, 3) := by decide +kernel
theorem dX8_feed_92 : decode cX8_feed 92 = .ok (.iconst 4, 1) := by decide +kernel
theorem dX8_feed_93 : decode cX8_feed 93 = .ok (.iaload, 1) := by decide +kernel
theorem dX8_feed_94 : decode cX8_feed 94 = .ok (.ireturn, 1) := by decide +kernel
theorem dX8_look_0 : decode cX8_look 0 = .ok (.aload_n 0, 1) := by decide +kernel
theorem dX8_look_1 : decode cX8_look 1 = .ok (.getfield 128, 3) := by decide +kernel
theorem dX8_look_4 : decode cX8_look 4 = .ok (.aload_n 0, 1) := by decide +kernel
theorem dX8_look_5 : decode cX8_look 5 = .ok (.getfield 9, 3) := by decide +kernel
theorem dX8_look_8 : decode cX8_look 8 = .ok (.iconst 4, 1) := by decide +kernel
theorem dX8_look_9 : decode cX8_look 9 = .ok (.iaload, 1) := by decide +kernel
theorem dX8_look_10 : decode cX8_look 10 = .ok (.if_icmp .ge 18, 3) := by decide +kernel
theorem dX8_look_13 : decode cX8_look 13 = .ok (.aload_n 0, 1) := by decide +kernel
theorem dX8_look_14 : decode cX8_look 14 = .ok (.getfield 9, 3) := by decide +kernel
theorem dX8_look_17 : decode cX8_look 17 = .ok (.bipush 99, 2) := by decide +kernel
theorem dX8_look_19 : decode cX8_look 19 = .ok (.aload_n 0, 1) := by decide +kernel
theorem dX8_look_20 : decode cX8_look 20 = .ok (.getfield 128, 3) := by decide +kernel
theorem dX8_look_23 : decode cX8_look 23 = .ok (.iadd, 1) := by decide +kernel
theorem dX8_look_24 : decode cX8_look 24 = .ok (.iaload, 1) := by decide +kernel
theorem dX8_look_25 : decode cX8_look 25 = .ok (.goto 4, 3) := by decide +kernel
theorem dX8_look_28 : decode cX8_look 28 = .ok (.iconst (-1), 1) := by decide +kernel
theorem dX8_look_29 : decode cX8_look 29 = .ok (.ireturn, 1) := by decide +kernel
theorem dX8_step_0 : decode cX8_step 0 = .ok (.aload_n 0, 1) := by decide +kernel
theorem dX8_step_1 : decode cX8_step 1 = .ok (.getfield 132, 3) := by decide +kernel
theorem dX8_step_4 : decode cX8_step 4 = .ok (.aload_n 0, 1) := by decide +kernel
theorem dX8_step_5 : decode cX8_step 5 = .ok (.getfield 22, 3) := by decide +kernel
theorem dX8_step_8 : decode cX8_step 8 = .ok (.arraylength, 1) := by decide +kernel
theorem dX8_step_9 : decode cX8_step 9 = .ok (.if_icmp .ge 33, 3) := by decide +kernel
theorem dX8_step_12 : decode cX8_step 12 = .ok (.aload_n 0, 1) := by decide +kernel
theorem dX8_step_13 : decode cX8_step 13 = .ok (.getfield 22, 3) := by decide +kernel
theorem dX8_step_16 : decode cX8_step 16 = .ok (.aload_n 0, 1) := by decide +kernel
theorem dX8_step_17 : decode cX8_step 17 = .ok (.getfield 132, 3) := by decide +kernel
theorem dX8_step_20 : decode cX8_step 20 = .ok (.iload_n 1, 1) := by decide +kernel
theorem dX8_step_21 : decode cX8_step 21 = .ok (.iastore, 1) := by decide +kernel
theorem dX8_step_22 : decode cX8_step 22 = .ok (.aload_n 0, 1) := by decide +kernel
theorem dX8_step_23 : decode cX8_step 23 = .ok (.getfield 25, 3) := by decide +kernel
theorem dX8_step_26 : decode cX8_step 26 = .ok (.aload_n 0, 1) := by decide +kernel
theorem dX8_step_27 : decode cX8_step 27 = .ok (.getfield 132, 3) := by decide +kernel
theorem dX8_step_30 : decode cX8_step 30 = .ok (.iload_n 2, 1) := by decide +kernel
theorem dX8_step_31 : decode cX8_step 31 = .ok (.iastore, 1) := by decide +kernel
theorem dX8_step_32 : decode cX8_step 32 = .ok (.aload_n 0, 1) := by decide +kernel
theorem dX8_step_33 : decode cX8_step 33 = .ok (.dup, 1) := by decide +kernel
theorem dX8_step_34 : decode cX8_step 34 = .ok (.getfield 132, 3) := by decide +kernel
theorem dX8_step_37 : decode cX8_step 37 = .ok (.iconst 1, 1) := by decide +kernel
theorem dX8_step_38 : decode cX8_step 38 = .ok (.iadd, 1) := by decide +kernel
theorem dX8_step_39 : decode cX8_step 39 = .ok (.putfield 132, 3) := by decide +kernel
theorem dX8_step_42 : decode cX8_step 42 = .ok (.return_, 1) := by decide +kernel
theorem dX8_nameOf_0 : decode cX8_nameOf 0 = .ok (.iload_n 1, 1) := by decide +kernel
theorem dX8_nameOf_1 : decode cX8_nameOf 1 = .ok (.tableswitch 158 97 115 #[124, 158, 158, 91, 158, 158, 158, 91, 158, 158, 124, 124, 158, 158, 158, 158, 158, 158, 91], 91) := by decide +kernel
theorem dX8_nameOf_92 : decode cX8_nameOf 92 = .ok (.aload_n 0, 1) := by decide +kernel
theorem dX8_nameOf_93 : decode cX8_nameOf 93 = .ok (.getfield 135, 3) := by decide +kernel
theorem dX8_nameOf_96 : decode cX8_nameOf 96 = .ok (.ifCond .eq 7, 3) := by decide +kernel
theorem dX8_nameOf_99 : decode cX8_nameOf 99 = .ok (.iconst (-1), 1) := by decide +kernel
theorem dX8_nameOf_100 : decode cX8_nameOf 100 = .ok (.goto 24, 3) := by decide +kernel
theorem dX8_nameOf_103 : decode cX8_nameOf 103 = .ok (.iload_n 1, 1) := by decide +kernel
theorem dX8_nameOf_104 : decode cX8_nameOf 104 = .ok (.bipush 104, 2) := by decide +kernel
theorem dX8_nameOf_106 : decode cX8_nameOf 106 = .ok (.if_icmp .ne 7, 3) := by decide +kernel
theorem dX8_nameOf_109 : decode cX8_nameOf 109 = .ok (.iconst 0, 1) := by decide +kernel
theorem dX8_nameOf_110 : decode cX8_nameOf 110 = .ok (.goto 14, 3) := by decide +kernel
theorem dX8_nameOf_113 : decode cX8_nameOf 113 = .ok (.iload_n 1, 1) := by decide +kernel
theorem dX8_nameOf_114 : decode cX8_nameOf 114 = .ok (.bipush 115, 2) := by decide +kernel
theorem dX8_nameOf_116 : decode cX8_nameOf 116 = .ok (.if_icmp .ne 7, 3) := by decide +kernel
theorem dX8_nameOf_119 : decode cX8_nameOf 119 = .ok (.iconst 1, 1) := by decide +kernel
theorem dX8_nameOf_120 : decode cX8_nameOf 120 = .ok (.goto 4, 3) := by decide +kernel
theorem dX8_nameOf_123 : decode cX8_nameOf 123 = .ok (.iconst 2, 1) := by decide +kernel
theorem dX8_nameOf_124 : decode cX8_nameOf 124 = .ok (.ireturn, 1) := by decide +kernel
theorem dX8_nameOf_125 : decode cX8_nameOf 125 = .ok (.aload_n 0, 1) := by decide +kernel
theorem dX8_nameOf_126 : decode cX8_nameOf 126 = .ok (.getfield 135, 3) := by decide +kernel
theorem dX8_nameOf_129 : decode cX8_nameOf 129 = .ok (.iconst 1, 1) := by decide +kernel
theorem dX8_nameOf_130 : decode cX8_nameOf 130 = .ok (.if_icmp .eq 7, 3) := by decide +kernel
theorem dX8_nameOf_133 : decode cX8_nameOf 133 = .ok (.iconst (-1), 1) := by decide +kernel
theorem dX8_nameOf_134 : decode cX8_nameOf 134 = .ok (.goto 24, 3) := by decide +kernel
theorem dX8_nameOf_137 : decode cX8_nameOf 137 = .ok (.iload_n 1, 1) := by decide +kernel
theorem dX8_nameOf_138 : decode cX8_nameOf 138 = .ok (.bipush 107, 2) := by decide +kernel
theorem dX8_nameOf_140 : decode cX8_nameOf 140 = .ok (.if_icmp .ne 7, 3) := by decide +kernel
theorem dX8_nameOf_143 : decode cX8_nameOf 143 = .ok (.iconst 0, 1) := by decide +kernel
theorem dX8_nameOf_144 : decode cX8_nameOf 144 = .ok (.goto 14, 3) := by decide +kernel
theorem dX8_nameOf_147 : decode cX8_nameOf 147 = .ok (.iload_n 1, 1) := by decide +kernel
theorem dX8_nameOf_148 : decode cX8_nameOf 148 = .ok (.bipush 108, 2) := by decide +kernel
theorem dX8_nameOf_150 : decode cX8_nameOf 150 = .ok (.if_icmp .ne 7, 3) := by decide +kernel
theorem dX8_nameOf_153 : decode cX8_nameOf 153 = .ok (.iconst 1, 1) := by decide +kernel
theorem dX8_nameOf_154 : decode cX8_nameOf 154 = .ok (.goto 4, 3) := by decide +kernel
theorem dX8_nameOf_157 : decode cX8_nameOf 157 = .ok (.iconst 2, 1) := by decide +kernel
theorem dX8_nameOf_158 : decode cX8_nameOf 158 = .ok (.ireturn, 1) := by decide +kernel
theorem dX8_nameOf_159 : decode cX8_nameOf 159 = .ok (.iconst (-1), 1) := by decide +kernel
theorem dX8_nameOf_160 : decode cX8_nameOf 160 = .ok (.ireturn, 1) := by decide +kernel
theorem dX8_number_0 : decode cX8_number 0 = .ok (.iconst 0, 1) := by decide +kernel
theorem dX8_number_1 : decode cX8_number 1 = .ok (.istore_n 1, 1) := by decide +kernel
theorem dX8_number_2 : decode cX8_number 2 = .ok (.iconst 0, 1) := by decide +kernel
theorem dX8_number_3 : decode cX8_number 3 = .ok (.istore_n 2, 1) := by decide +kernel
theorem dX8_number_4 : decode cX8_number 4 = .ok (.iload_n 2, 1) := by decide +kernel
theorem dX8_number_5 : decode cX8_number 5 = .ok (.iconst 4, 1) := by decide +kernel
theorem dX8_number_6 : decode cX8_number 6 = .ok (.if_icmp .ge 46, 3) := by decide +kernel
theorem dX8_number_9 : decode cX8_number 9 = .ok (.aload_n 0, 1) := by decide +kernel
theorem dX8_number_10 : decode cX8_number 10 = .ok (.invokevirtual 138, 3) := by decide +kernel
theorem dX8_number_13 : decode cX8_number 13 = .ok (.bipush 48, 2) := by decide +kernel
theorem dX8_number_15 : decode cX8_number 15 = .ok (.bipush 57, 2) := by decide +kernel
theorem dX8_number_17 : decode cX8_number 17 = .ok (.invokestatic 47, 3) := by decide +kernel
theorem dX8_number_20 : decode cX8_number 20 = .ok (.ifCond .eq 32, 3) := by decide +kernel
theorem dX8_number_23 : decode cX8_number 23 = .ok (.bipush 10, 2) := by decide +kernel
theorem dX8_number_25 : decode cX8_number 25 = .ok (.iload_n 1, 1) := by decide +kernel
theorem dX8_number_26 : decode cX8_number 26 = .ok (.imul, 1) := by decide +kernel
theorem dX8_number_27 : decode cX8_number 27 = .ok (.aload_n 0, 1) := by decide +kernel
theorem dX8_number_28 : decode cX8_number 28 = .ok (.invokevirtual 138, 3) := by decide +kernel
theorem dX8_number_31 : decode cX8_number 31 = .ok (.iadd, 1) := by decide +kernel
theorem dX8_number_32 : decode cX8_number 32 = .ok (.bipush 48, 2) := by decide +kernel
theorem dX8_number_34 : decode cX8_number 34 = .ok (.isub, 1) := by decide +kernel
theorem dX8_number_35 : decode cX8_number 35 = .ok (.istore_n 1, 1) := by decide +kernel
theorem dX8_number_36 : decode cX8_number 36 = .ok (.aload_n 0, 1) := by decide +kernel
theorem dX8_number_37 : decode cX8_number 37 = .ok (.dup, 1) := by decide +kernel
theorem dX8_number_38 : decode cX8_number 38 = .ok (.getfield 128, 3) := by decide +kernel
theorem dX8_number_41 : decode cX8_number 41 = .ok (.iconst 1, 1) := by decide +kernel
theorem dX8_number_42 : decode cX8_number 42 = .ok (.iadd, 1) := by decide +kernel
theorem dX8_number_43 : decode cX8_number 43 = .ok (.putfield 128, 3) := by decide +kernel
theorem dX8_number_46 : decode cX8_number 46 = .ok (.iinc 2 1, 3) := by decide +kernel
theorem dX8_number_49 : decode cX8_number 49 = .ok (.goto (-45), 3) := by decide +kernel
theorem dX8_number_52 : decode cX8_number 52 = .ok (.aload_n 0, 1) := by decide +kernel
theorem dX8_number_53 : decode cX8_number 53 = .ok (.iload_n 2, 1) := by decide +kernel
theorem dX8_number_54 : decode cX8_number 54 = .ok (.ifCond .ne 7, 3) := by decide +kernel
theorem dX8_number_57 : decode cX8_number 57 = .ok (.iconst 1, 1) := by decide +kernel
theorem dX8_number_58 : decode cX8_number 58 = .ok (.goto 4, 3) := by decide +kernel
theorem dX8_number_61 : decode cX8_number 61 = .ok (.iconst 0, 1) := by decide +kernel
theorem dX8_number_62 : decode cX8_number 62 = .ok (.putfield 142, 3) := by decide +kernel
theorem dX8_number_65 : decode cX8_number 65 = .ok (.aload_n 0, 1) := by decide +kernel
theorem dX8_number_66 : decode cX8_number 66 = .ok (.iconst 1, 1) := by decide +kernel
theorem dX8_number_67 : decode cX8_number 67 = .ok (.iload_n 1, 1) := by decide +kernel
theorem dX8_number_68 : decode cX8_number 68 = .ok (.invokevirtual 146, 3) := by decide +kernel
theorem dX8_number_71 : decode cX8_number 71 = .ok (.return_, 1) := by decide +kernel
theorem dX8_opens_0 : decode cX8_opens 0 = .ok (.aload_n 0, 1) := by decide +kernel
theorem dX8_opens_1 : decode cX8_opens 1 = .ok (.getfield 150, 3) := by decide +kernel
theorem dX8_opens_4 : decode cX8_opens 4 = .ok (.iconst 5, 1) := by decide +kernel
theorem dX8_opens_5 : decode cX8_opens 5 = .ok (.if_icmp .ne 9, 3) := by decide +kernel
theorem dX8_opens_8 : decode cX8_opens 8 = .ok (.aload_n 0, 1) := by decide +kernel
theorem dX8_opens_9 : decode cX8_opens 9 = .ok (.iconst 1, 1) := by decide +kernel
theorem dX8_opens_10 : decode cX8_opens 10 = .ok (.putfield 142, 3) := by decide +kernel
theorem dX8_opens_13 : decode cX8_opens 13 = .ok (.return_, 1) := by decide +kernel
theorem dX8_opens_14 : decode cX8_opens 14 = .ok (.aload_n 0, 1) := by decide +kernel
theorem dX8_opens_15 : decode cX8_opens 15 = .ok (.dup, 1) := by decide +kernel
theorem dX8_opens_16 : decode cX8_opens 16 = .ok (.getfield 150, 3) := by decide +kernel
theorem dX8_opens_19 : decode cX8_opens 19 = .ok (.iconst 1, 1) := by decide +kernel
theorem dX8_opens_20 : decode cX8_opens 20 = .ok (.iadd, 1) := by decide +kernel
theorem dX8_opens_21 : decode cX8_opens 21 = .ok (.putfield 150, 3) := by decide +kernel
theorem dX8_opens_24 : decode cX8_opens 24 = .ok (.aload_n 0, 1) := by decide +kernel
theorem dX8_opens_25 : decode cX8_opens 25 = .ok (.dup, 1) := by decide +kernel
theorem dX8_opens_26 : decode cX8_opens 26 = .ok (.getfield 128, 3) := by decide +kernel
theorem dX8_opens_29 : decode cX8_opens 29 = .ok (.iconst 1, 1) := by decide +kernel
theorem dX8_opens_30 : decode cX8_opens 30 = .ok (.iadd, 1) := by decide +kernel
theorem dX8_opens_31 : decode cX8_opens 31 = .ok (.putfield 128, 3) := by decide +kernel
theorem dX8_opens_34 : decode cX8_opens 34 = .ok (.iload_n 1, 1) := by decide +kernel
theorem dX8_opens_35 : decode cX8_opens 35 = .ok (.bipush 33, 2) := by decide +kernel
theorem dX8_opens_37 : decode cX8_opens 37 = .ok (.if_icmp .ne 16, 3) := by decide +kernel
theorem dX8_opens_40 : decode cX8_opens 40 = .ok (.aload_n 0, 1) := by decide +kernel
theorem dX8_opens_41 : decode cX8_opens 41 = .ok (.invokevirtual 153, 3) := by decide +kernel
theorem dX8_opens_44 : decode cX8_opens 44 = .ok (.aload_n 0, 1) := by decide +kernel
theorem dX8_opens_45 : decode cX8_opens 45 = .ok (.iconst 3, 1) := by decide +kernel
theorem dX8_opens_46 : decode cX8_opens 46 = .ok (.iconst 0, 1) := by decide +kernel
theorem dX8_opens_47 : decode cX8_opens 47 = .ok (.invokevirtual 146, 3) := by decide +kernel
theorem dX8_opens_50 : decode cX8_opens 50 = .ok (.goto 53, 3) := by decide +kernel
theorem dX8_opens_53 : decode cX8_opens 53 = .ok (.aload_n 0, 1) := by decide +kernel
theorem dX8_opens_54 : decode cX8_opens 54 = .ok (.invokevirtual 156, 3) := by decide +kernel
theorem dX8_opens_57 : decode cX8_opens 57 = .ok (.aload_n 0, 1) := by decide +kernel
theorem dX8_opens_58 : decode cX8_opens 58 = .ok (.aload_n 0, 1) := by decide +kernel
theorem dX8_opens_59 : decode cX8_opens 59 = .ok (.getfield 142, 3) := by decide +kernel
theorem dX8_opens_62 : decode cX8_opens 62 = .ok (.ifCond .ne 12, 3) := by decide +kernel
theorem dX8_opens_65 : decode cX8_opens 65 = .ok (.aload_n 0, 1) := by decide +kernel
theorem dX8_opens_66 : decode cX8_opens 66 = .ok (.invokevirtual 138, 3) := by decide +kernel
theorem dX8_opens_69 : decode cX8_opens 69 = .ok (.bipush 41, 2) := by decide +kernel
theorem dX8_opens_71 : decode cX8_opens 71 = .ok (.if_icmp .eq 7, 3) := by decide +kernel
theorem dX8_opens_74 : decode cX8_opens 74 = .ok (.iconst 1, 1) := by decide +kernel
theorem dX8_opens_75 : decode cX8_opens 75 = .ok (.goto 4, 3) := by decide +kernel
theorem dX8_opens_78 : decode cX8_opens 78 = .ok (.iconst 0, 1) := by decide +kernel
theorem dX8_opens_79 : decode cX8_opens 79 = .ok (.putfield 142, 3) := by decide +kernel
theorem dX8_opens_82 : decode cX8_opens 82 = .ok (.aload_n 0, 1) := by decide +kernel
theorem dX8_opens_83 : decode cX8_opens 83 = .ok (.dup, 1) := by decide +kernel
theorem dX8_opens_84 : decode cX8_opens 84 = .ok (.getfield 128, 3) := by decide +kernel
theorem dX8_opens_87 : decode cX8_opens 87 = .ok (.aload_n 0, 1) := by decide +kernel
theorem dX8_opens_88 : decode cX8_opens 88 = .ok (.getfield 142, 3) := by decide +kernel
theorem dX8_opens_91 : decode cX8_opens 91 = .ok (.ifCond .eq 7, 3) := by decide +kernel
theorem dX8_opens_94 : decode cX8_opens 94 = .ok (.iconst 0, 1) := by decide +kernel
theorem dX8_opens_95 : decode cX8_opens 95 = .ok (.goto 4, 3) := by decide +kernel
theorem dX8_opens_98 : decode cX8_opens 98 = .ok (.iconst 1, 1) := by decide +kernel
theorem dX8_opens_99 : decode cX8_opens 99 = .ok (.iadd, 1) := by decide +kernel
theorem dX8_opens_100 : decode cX8_opens 100 = .ok (.putfield 128, 3) := by decide +kernel
theorem dX8_opens_103 : decode cX8_opens 103 = .ok (.aload_n 0, 1) := by decide +kernel
theorem dX8_opens_104 : decode cX8_opens 104 = .ok (.dup, 1) := by decide +kernel
theorem dX8_opens_105 : decode cX8_opens 105 = .ok (.getfield 150, 3) := by decide +kernel
theorem dX8_opens_108 : decode cX8_opens 108 = .ok (.iconst 1, 1) := by decide +kernel
theorem dX8_opens_109 : decode cX8_opens 109 = .ok (.isub, 1) := by decide +kernel
theorem dX8_opens_110 : decode cX8_opens 110 = .ok (.putfield 150, 3) := by decide +kernel
theorem dX8_opens_113 : decode cX8_opens 113 = .ok (.return_, 1) := by decide +kernel
theorem dX8_one_0 : decode cX8_one 0 = .ok (.aload_n 0, 1) := by decide +kernel
theorem dX8_one_1 : decode cX8_one 1 = .ok (.invokevirtual 138, 3) := by decide +kernel
theorem dX8_one_4 : decode cX8_one 4 = .ok (.istore_n 1, 1) := by decide +kernel
theorem dX8_one_5 : decode cX8_one 5 = .ok (.aload_n 0, 1) := by decide +kernel
theorem dX8_one_6 : decode cX8_one 6 = .ok (.iload_n 1, 1) := by decide +kernel
theorem dX8_one_7 : decode cX8_one 7 = .ok (.invokevirtual 159, 3) := by decide +kernel
theorem dX8_one_10 : decode cX8_one 10 = .ok (.istore_n 2, 1) := by decide +kernel
theorem dX8_one_11 : decode cX8_one 11 = .ok (.iload_n 2, 1) := by decide +kernel
theorem dX8_one_12 : decode cX8_one 12 = .ok (.ifCond .lt 22, 3) := by decide +kernel
theorem dX8_one_15 : decode cX8_one 15 = .ok (.aload_n 0, 1) := by decide +kernel
theorem dX8_one_16 : decode cX8_one 16 = .ok (.dup, 1) := by decide +kernel
theorem dX8_one_17 : decode cX8_one 17 = .ok (.getfield 128, 3) := by decide +kernel
theorem dX8_one_20 : decode cX8_one 20 = .ok (.iconst 1, 1) := by decide +kernel
theorem dX8_one_21 : decode cX8_one 21 = .ok (.iadd, 1) := by decide +kernel
theorem dX8_one_22 : decode cX8_one 22 = .ok (.putfield 128, 3) := by decide +kernel
theorem dX8_one_25 : decode cX8_one 25 = .ok (.aload_n 0, 1) := by decide +kernel
theorem dX8_one_26 : decode cX8_one 26 = .ok (.iconst 2, 1) := by decide +kernel
theorem dX8_one_27 : decode cX8_one 27 = .ok (.iload_n 2, 1) := by decide +kernel
theorem dX8_one_28 : decode cX8_one 28 = .ok (.invokevirtual 146, 3) := by decide +kernel
theorem dX8_one_31 : decode cX8_one 31 = .ok (.goto 27, 3) := by decide +kernel
theorem dX8_one_34 : decode cX8_one 34 = .ok (.iload_n 1, 1) := by decide +kernel
theorem dX8_one_35 : decode cX8_one 35 = .ok (.bipush 33, 2) := by decide +kernel
theorem dX8_one_37 : decode cX8_one 37 = .ok (.if_icmp .eq 9, 3) := by decide +kernel
theorem dX8_one_40 : decode cX8_one 40 = .ok (.iload_n 1, 1) := by decide +kernel
theorem dX8_one_41 : decode cX8_one 41 = .ok (.bipush 40, 2) := by decide +kernel
theorem dX8_one_43 : decode cX8_one 43 = .ok (.if_icmp .ne 11, 3) := by decide +kernel
theorem dX8_one_46 : decode cX8_one 46 = .ok (.aload_n 0, 1) := by decide +kernel
theorem dX8_one_47 : decode cX8_one 47 = .ok (.iload_n 1, 1) := by decide +kernel
theorem dX8_one_48 : decode cX8_one 48 = .ok (.invokevirtual 162, 3) := by decide +kernel
theorem dX8_one_51 : decode cX8_one 51 = .ok (.goto 7, 3) := by decide +kernel
theorem dX8_one_54 : decode cX8_one 54 = .ok (.aload_n 0, 1) := by decide +kernel
theorem dX8_one_55 : decode cX8_one 55 = .ok (.invokevirtual 166, 3) := by decide +kernel
theorem dX8_one_58 : decode cX8_one 58 = .ok (.return_, 1) := by decide +kernel
theorem dX8_times_0 : decode cX8_times 0 = .ok (.aload_n 0, 1) := by decide +kernel
theorem dX8_times_1 : decode cX8_times 1 = .ok (.invokevirtual 153, 3) := by decide +kernel
theorem dX8_times_4 : decode cX8_times 4 = .ok (.aload_n 0, 1) := by decide +kernel
theorem dX8_times_5 : decode cX8_times 5 = .ok (.getfield 142, 3) := by decide +kernel
theorem dX8_times_8 : decode cX8_times 8 = .ok (.ifCond .ne 58, 3) := by decide +kernel
theorem dX8_times_11 : decode cX8_times 11 = .ok (.aload_n 0, 1) := by decide +kernel
theorem dX8_times_12 : decode cX8_times 12 = .ok (.invokevirtual 138, 3) := by decide +kernel
theorem dX8_times_15 : decode cX8_times 15 = .ok (.bipush 42, 2) := by decide +kernel
theorem dX8_times_17 : decode cX8_times 17 = .ok (.if_icmp .eq 21, 3) := by decide +kernel
theorem dX8_times_20 : decode cX8_times 20 = .ok (.aload_n 0, 1) := by decide +kernel
theorem dX8_times_21 : decode cX8_times 21 = .ok (.invokevirtual 138, 3) := by decide +kernel
theorem dX8_times_24 : decode cX8_times 24 = .ok (.bipush 47, 2) := by decide +kernel
theorem dX8_times_26 : decode cX8_times 26 = .ok (.if_icmp .eq 12, 3) := by decide +kernel
theorem dX8_times_29 : decode cX8_times 29 = .ok (.aload_n 0, 1) := by decide +kernel
theorem dX8_times_30 : decode cX8_times 30 = .ok (.invokevirtual 138, 3) := by decide +kernel
theorem dX8_times_33 : decode cX8_times 33 = .ok (.bipush 37, 2) := by decide +kernel
theorem dX8_times_35 : decode cX8_times 35 = .ok (.if_icmp .ne 31, 3) := by decide +kernel
theorem dX8_times_38 : decode cX8_times 38 = .ok (.aload_n 0, 1) := by decide +kernel
theorem dX8_times_39 : decode cX8_times 39 = .ok (.invokevirtual 138, 3) := by decide +kernel
theorem dX8_times_42 : decode cX8_times 42 = .ok (.istore_n 1, 1) := by decide +kernel
theorem dX8_times_43 : decode cX8_times 43 = .ok (.aload_n 0, 1) := by decide +kernel
theorem dX8_times_44 : decode cX8_times 44 = .ok (.dup, 1) := by decide +kernel
theorem dX8_times_45 : decode cX8_times 45 = .ok (.getfield 128, 3) := by decide +kernel
theorem dX8_times_48 : decode cX8_times 48 = .ok (.iconst 1, 1) := by decide +kernel
theorem dX8_times_49 : decode cX8_times 49 = .ok (.iadd, 1) := by decide +kernel
theorem dX8_times_50 : decode cX8_times 50 = .ok (.putfield 128, 3) := by decide +kernel
theorem dX8_times_53 : decode cX8_times 53 = .ok (.aload_n 0, 1) := by decide +kernel
theorem dX8_times_54 : decode cX8_times 54 = .ok (.invokevirtual 153, 3) := by decide +kernel
theorem dX8_times_57 : decode cX8_times 57 = .ok (.aload_n 0, 1) := by decide +kernel
theorem dX8_times_58 : decode cX8_times 58 = .ok (.iload_n 1, 1) := by decide +kernel
theorem dX8_times_59 : decode cX8_times 59 = .ok (.iconst 0, 1) := by decide +kernel
theorem dX8_times_60 : decode cX8_times 60 = .ok (.invokevirtual 146, 3) := by decide +kernel
theorem dX8_times_63 : decode cX8_times 63 = .ok (.goto (-59), 3) := by decide +kernel
theorem dX8_times_66 : decode cX8_times 66 = .ok (.return_, 1) := by decide +kernel
theorem dX8_sum_0 : decode cX8_sum 0 = .ok (.aload_n 0, 1) := by decide +kernel
theorem dX8_sum_1 : decode cX8_sum 1 = .ok (.invokevirtual 169, 3) := by decide +kernel
theorem dX8_sum_4 : decode cX8_sum 4 = .ok (.aload_n 0, 1) := by decide +kernel
theorem dX8_sum_5 : decode cX8_sum 5 = .ok (.getfield 142, 3) := by decide +kernel
theorem dX8_sum_8 : decode cX8_sum 8 = .ok (.ifCond .ne 49, 3) := by decide +kernel
theorem dX8_sum_11 : decode cX8_sum 11 = .ok (.aload_n 0, 1) := by decide +kernel
theorem dX8_sum_12 : decode cX8_sum 12 = .ok (.invokevirtual 138, 3) := by decide +kernel
theorem dX8_sum_15 : decode cX8_sum 15 = .ok (.bipush 43, 2) := by decide +kernel
theorem dX8_sum_17 : decode cX8_sum 17 = .ok (.if_icmp .eq 12, 3) := by decide +kernel
theorem dX8_sum_20 : decode cX8_sum 20 = .ok (.aload_n 0, 1) := by decide +kernel
theorem dX8_sum_21 : decode cX8_sum 21 = .ok (.invokevirtual 138, 3) := by decide +kernel
theorem dX8_sum_24 : decode cX8_sum 24 = .ok (.bipush 45, 2) := by decide +kernel
theorem dX8_sum_26 : decode cX8_sum 26 = .ok (.if_icmp .ne 31, 3) := by decide +kernel
theorem dX8_sum_29 : decode cX8_sum 29 = .ok (.aload_n 0, 1) := by decide +kernel
theorem dX8_sum_30 : decode cX8_sum 30 = .ok (.invokevirtual 138, 3) := by decide +kernel
theorem dX8_sum_33 : decode cX8_sum 33 = .ok (.istore_n 1, 1) := by decide +kernel
theorem dX8_sum_34 : decode cX8_sum 34 = .ok (.aload_n 0, 1) := by decide +kernel
theorem dX8_sum_35 : decode cX8_sum 35 = .ok (.dup, 1) := by decide +kernel
theorem dX8_sum_36 : decode cX8_sum 36 = .ok (.getfield 128, 3) := by decide +kernel
theorem dX8_sum_39 : decode cX8_sum 39 = .ok (.iconst 1, 1) := by decide +kernel
theorem dX8_sum_40 : decode cX8_sum 40 = .ok (.iadd, 1) := by decide +kernel
theorem dX8_sum_41 : decode cX8_sum 41 = .ok (.putfield 128, 3) := by decide +kernel
theorem dX8_sum_44 : decode cX8_sum 44 = .ok (.aload_n 0, 1) := by decide +kernel
theorem dX8_sum_45 : decode cX8_sum 45 = .ok (.invokevirtual 169, 3) := by decide +kernel
theorem dX8_sum_48 : decode cX8_sum 48 = .ok (.aload_n 0, 1) := by decide +kernel
theorem dX8_sum_49 : decode cX8_sum 49 = .ok (.iload_n 1, 1) := by decide +kernel
theorem dX8_sum_50 : decode cX8_sum 50 = .ok (.iconst 0, 1) := by decide +kernel
theorem dX8_sum_51 : decode cX8_sum 51 = .ok (.invokevirtual 146, 3) := by decide +kernel
theorem dX8_sum_54 : decode cX8_sum 54 = .ok (.goto (-50), 3) := by decide +kernel
theorem dX8_sum_57 : decode cX8_sum 57 = .ok (.return_, 1) := by decide +kernel
theorem dX8_compares_0 : decode cX8_compares 0 = .ok (.aload_n 0, 1) := by decide +kernel
theorem dX8_compares_1 : decode cX8_compares 1 = .ok (.invokevirtual 172, 3) := by decide +kernel
theorem dX8_compares_4 : decode cX8_compares 4 = .ok (.aload_n 0, 1) := by decide +kernel
theorem dX8_compares_5 : decode cX8_compares 5 = .ok (.invokevirtual 138, 3) := by decide +kernel
theorem dX8_compares_8 : decode cX8_compares 8 = .ok (.istore_n 1, 1) := by decide +kernel
theorem dX8_compares_9 : decode cX8_compares 9 = .ok (.aload_n 0, 1) := by decide +kernel
theorem dX8_compares_10 : decode cX8_compares 10 = .ok (.getfield 142, 3) := by decide +kernel
theorem dX8_compares_13 : decode cX8_compares 13 = .ok (.ifCond .ne 41, 3) := by decide +kernel
theorem dX8_compares_16 : decode cX8_compares 16 = .ok (.iload_n 1, 1) := by decide +kernel
theorem dX8_compares_17 : decode cX8_compares 17 = .ok (.bipush 60, 2) := by decide +kernel
theorem dX8_compares_19 : decode cX8_compares 19 = .ok (.if_icmp .eq 15, 3) := by decide +kernel
theorem dX8_compares_22 : decode cX8_compares 22 = .ok (.iload_n 1, 1) := by decide +kernel
theorem dX8_compares_23 : decode cX8_compares 23 = .ok (.bipush 61, 2) := by decide +kernel
theorem dX8_compares_25 : decode cX8_compares 25 = .ok (.if_icmp .eq 9, 3) := by decide +kernel
theorem dX8_compares_28 : decode cX8_compares 28 = .ok (.iload_n 1, 1) := by decide +kernel
theorem dX8_compares_29 : decode cX8_compares 29 = .ok (.bipush 62, 2) := by decide +kernel
theorem dX8_compares_31 : decode cX8_compares 31 = .ok (.if_icmp .ne 23, 3) := by decide +kernel
theorem dX8_compares_34 : decode cX8_compares 34 = .ok (.aload_n 0, 1) := by decide +kernel
theorem dX8_compares_35 : decode cX8_compares 35 = .ok (.dup, 1) := by decide +kernel
theorem dX8_compares_36 : decode cX8_compares 36 = .ok (.getfield 128, 3) := by decide +kernel
theorem dX8_compares_39 : decode cX8_compares 39 = .ok (.iconst 1, 1) := by decide +kernel
theorem dX8_compares_40 : decode cX8_compares 40 = .ok (.iadd, 1) := by decide +kernel
theorem dX8_compares_41 : decode cX8_compares 41 = .ok (.putfield 128, 3) := by decide +kernel
theorem dX8_compares_44 : decode cX8_compares 44 = .ok (.aload_n 0, 1) := by decide +kernel
theorem dX8_compares_45 : decode cX8_compares 45 = .ok (.invokevirtual 172, 3) := by decide +kernel
theorem dX8_compares_48 : decode cX8_compares 48 = .ok (.aload_n 0, 1) := by decide +kernel
theorem dX8_compares_49 : decode cX8_compares 49 = .ok (.iload_n 1, 1) := by decide +kernel
theorem dX8_compares_50 : decode cX8_compares 50 = .ok (.iconst 0, 1) := by decide +kernel
theorem dX8_compares_51 : decode cX8_compares 51 = .ok (.invokevirtual 146, 3) := by decide +kernel
theorem dX8_compares_54 : decode cX8_compares 54 = .ok (.return_, 1) := by decide +kernel
theorem dX8_all_0 : decode cX8_all 0 = .ok (.aload_n 0, 1) := by decide +kernel
theorem dX8_all_1 : decode cX8_all 1 = .ok (.invokevirtual 175, 3) := by decide +kernel
theorem dX8_all_4 : decode cX8_all 4 = .ok (.aload_n 0, 1) := by decide +kernel
theorem dX8_all_5 : decode cX8_all 5 = .ok (.getfield 142, 3) := by decide +kernel
theorem dX8_all_8 : decode cX8_all 8 = .ok (.ifCond .ne 36, 3) := by decide +kernel
theorem dX8_all_11 : decode cX8_all 11 = .ok (.aload_n 0, 1) := by decide +kernel
theorem dX8_all_12 : decode cX8_all 12 = .ok (.invokevirtual 138, 3) := by decide +kernel
theorem dX8_all_15 : decode cX8_all 15 = .ok (.bipush 38, 2) := by decide +kernel
