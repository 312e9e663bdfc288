theorem dX0_init_0 : decode cX0_init 0 = .ok (.aload_n 0, 1) := by decide +kernel
theorem dX0_init_1 : decode cX0_init 1 = .ok (.invokespecial 3, 3) := by decide +kernel
theorem dX0_init_4 : decode cX0_init 4 = .ok (.return_, 1) := by decide +kernel
theorem dX0_startAs_0 : decode cX0_startAs 0 = .ok (.aload_n 0, 1) := by decide +kernel
theorem dX0_startAs_1 : decode cX0_startAs 1 = .ok (.iload_n 1, 1) := by decide +kernel
theorem dX0_startAs_2 : decode cX0_startAs 2 = .ok (.invokevirtual 9, 3) := by decide +kernel
theorem dX0_startAs_5 : decode cX0_startAs 5 = .ok (.aload_n 0, 1) := by decide +kernel
theorem dX0_startAs_6 : decode cX0_startAs 6 = .ok (.iload_n 2, 1) := by decide +kernel
theorem dX0_startAs_7 : decode cX0_startAs 7 = .ok (.putfield 15, 3) := by decide +kernel
theorem dX0_startAs_10 : decode cX0_startAs 10 = .ok (.aload_n 0, 1) := by decide +kernel
theorem dX0_startAs_11 : decode cX0_startAs 11 = .ok (.iload_n 3, 1) := by decide +kernel
theorem dX0_startAs_12 : decode cX0_startAs 12 = .ok (.putfield 19, 3) := by decide +kernel
theorem dX0_startAs_15 : decode cX0_startAs 15 = .ok (.aload_n 0, 1) := by decide +kernel
theorem dX0_startAs_16 : decode cX0_startAs 16 = .ok (.iconst 0, 1) := by decide +kernel
theorem dX0_startAs_17 : decode cX0_startAs 17 = .ok (.putfield 22, 3) := by decide +kernel
theorem dX0_startAs_20 : decode cX0_startAs 20 = .ok (.aload_n 0, 1) := by decide +kernel
theorem dX0_startAs_21 : decode cX0_startAs 21 = .ok (.iconst 0, 1) := by decide +kernel
theorem dX0_startAs_22 : decode cX0_startAs 22 = .ok (.putfield 25, 3) := by decide +kernel
theorem dX0_startAs_25 : decode cX0_startAs 25 = .ok (.return_, 1) := by decide +kernel
theorem dX0_turnInto_0 : decode cX0_turnInto 0 = .ok (.aload_n 0, 1) := by decide +kernel
theorem dX0_turnInto_1 : decode cX0_turnInto 1 = .ok (.iload_n 1, 1) := by decide +kernel
theorem dX0_turnInto_2 : decode cX0_turnInto 2 = .ok (.bipush 10, 2) := by decide +kernel
theorem dX0_turnInto_4 : decode cX0_turnInto 4 = .ok (.idiv, 1) := by decide +kernel
theorem dX0_turnInto_5 : decode cX0_turnInto 5 = .ok (.putfield 29, 3) := by decide +kernel
theorem dX0_turnInto_8 : decode cX0_turnInto 8 = .ok (.aload_n 0, 1) := by decide +kernel
theorem dX0_turnInto_9 : decode cX0_turnInto 9 = .ok (.iload_n 1, 1) := by decide +kernel
theorem dX0_turnInto_10 : decode cX0_turnInto 10 = .ok (.bipush 10, 2) := by decide +kernel
theorem dX0_turnInto_12 : decode cX0_turnInto 12 = .ok (.irem, 1) := by decide +kernel
theorem dX0_turnInto_13 : decode cX0_turnInto 13 = .ok (.putfield 32, 3) := by decide +kernel
theorem dX0_turnInto_16 : decode cX0_turnInto 16 = .ok (.return_, 1) := by decide +kernel
theorem dX0_isOfKind_0 : decode cX0_isOfKind 0 = .ok (.aload_n 0, 1) := by decide +kernel
theorem dX0_isOfKind_1 : decode cX0_isOfKind 1 = .ok (.getfield 29, 3) := by decide +kernel
theorem dX0_isOfKind_4 : decode cX0_isOfKind 4 = .ok (.istore_n 2, 1) := by decide +kernel
theorem dX0_isOfKind_5 : decode cX0_isOfKind 5 = .ok (.iconst 0, 1) := by decide +kernel
theorem dX0_isOfKind_6 : decode cX0_isOfKind 6 = .ok (.istore_n 3, 1) := by decide +kernel
theorem dX0_isOfKind_7 : decode cX0_isOfKind 7 = .ok (.iload_n 3, 1) := by decide +kernel
theorem dX0_isOfKind_8 : decode cX0_isOfKind 8 = .ok (.iconst 3, 1) := by decide +kernel
theorem dX0_isOfKind_9 : decode cX0_isOfKind 9 = .ok (.if_icmp .ge 22, 3) := by decide +kernel
theorem dX0_isOfKind_12 : decode cX0_isOfKind 12 = .ok (.iload_n 2, 1) := by decide +kernel
theorem dX0_isOfKind_13 : decode cX0_isOfKind 13 = .ok (.iload_n 1, 1) := by decide +kernel
theorem dX0_isOfKind_14 : decode cX0_isOfKind 14 = .ok (.if_icmp .ne 5, 3) := by decide +kernel
theorem dX0_isOfKind_17 : decode cX0_isOfKind 17 = .ok (.iconst 1, 1) := by decide +kernel
theorem dX0_isOfKind_18 : decode cX0_isOfKind 18 = .ok (.ireturn, 1) := by decide +kernel
theorem dX0_isOfKind_19 : decode cX0_isOfKind 19 = .ok (.getstatic 35, 3) := by decide +kernel
theorem dX0_isOfKind_22 : decode cX0_isOfKind 22 = .ok (.iload_n 2, 1) := by decide +kernel
theorem dX0_isOfKind_23 : decode cX0_isOfKind 23 = .ok (.iaload, 1) := by decide +kernel
theorem dX0_isOfKind_24 : decode cX0_isOfKind 24 = .ok (.istore_n 2, 1) := by decide +kernel
theorem dX0_isOfKind_25 : decode cX0_isOfKind 25 = .ok (.iinc 3 1, 3) := by decide +kernel
theorem dX0_isOfKind_28 : decode cX0_isOfKind 28 = .ok (.goto (-21), 3) := by decide +kernel
theorem dX0_isOfKind_31 : decode cX0_isOfKind 31 = .ok (.iconst 0, 1) := by decide +kernel
theorem dX0_isOfKind_32 : decode cX0_isOfKind 32 = .ok (.ireturn, 1) := by decide +kernel
theorem dX0_left_0 : decode cX0_left 0 = .ok (.aload_n 0, 1) := by decide +kernel
theorem dX0_left_1 : decode cX0_left 1 = .ok (.getfield 25, 3) := by decide +kernel
theorem dX0_left_4 : decode cX0_left 4 = .ok (.ifCond .eq 5, 3) := by decide +kernel
theorem dX0_left_7 : decode cX0_left 7 = .ok (.iconst 0, 1) := by decide +kernel
theorem dX0_left_8 : decode cX0_left 8 = .ok (.ireturn, 1) := by decide +kernel
theorem dX0_left_9 : decode cX0_left 9 = .ok (.aload_n 0, 1) := by decide +kernel
theorem dX0_left_10 : decode cX0_left 10 = .ok (.getfield 29, 3) := by decide +kernel
theorem dX0_left_13 : decode cX0_left 13 = .ok (.tableswitch 87 1 6 #[39, 47, 59, 39, 47, 72], 39) := by decide +kernel
theorem dX0_left_52 : decode cX0_left 52 = .ok (.aload_n 0, 1) := by decide +kernel
theorem dX0_left_53 : decode cX0_left 53 = .ok (.iconst 3, 1) := by decide +kernel
theorem dX0_left_54 : decode cX0_left 54 = .ok (.bipush 20, 2) := by decide +kernel
theorem dX0_left_56 : decode cX0_left 56 = .ok (.invokevirtual 39, 3) := by decide +kernel
theorem dX0_left_59 : decode cX0_left 59 = .ok (.ireturn, 1) := by decide +kernel
theorem dX0_left_60 : decode cX0_left 60 = .ok (.aload_n 0, 1) := by decide +kernel
theorem dX0_left_61 : decode cX0_left 61 = .ok (.getfield 19, 3) := by decide +kernel
theorem dX0_left_64 : decode cX0_left 64 = .ok (.iconst 1, 1) := by decide +kernel
theorem dX0_left_65 : decode cX0_left 65 = .ok (.aload_n 0, 1) := by decide +kernel
theorem dX0_left_66 : decode cX0_left 66 = .ok (.getfield 32, 3) := by decide +kernel
theorem dX0_left_69 : decode cX0_left 69 = .ok (.ishl, 1) := by decide +kernel
theorem dX0_left_70 : decode cX0_left 70 = .ok (.ior, 1) := by decide +kernel
theorem dX0_left_71 : decode cX0_left 71 = .ok (.ireturn, 1) := by decide +kernel
theorem dX0_left_72 : decode cX0_left 72 = .ok (.aload_n 0, 1) := by decide +kernel
theorem dX0_left_73 : decode cX0_left 73 = .ok (.iconst 0, 1) := by decide +kernel
theorem dX0_left_74 : decode cX0_left 74 = .ok (.bipush 19, 2) := by decide +kernel
theorem dX0_left_76 : decode cX0_left 76 = .ok (.aload_n 0, 1) := by decide +kernel
theorem dX0_left_77 : decode cX0_left 77 = .ok (.getfield 22, 3) := by decide +kernel
theorem dX0_left_80 : decode cX0_left 80 = .ok (.isub, 1) := by decide +kernel
theorem dX0_left_81 : decode cX0_left 81 = .ok (.invokevirtual 39, 3) := by decide +kernel
theorem dX0_left_84 : decode cX0_left 84 = .ok (.ireturn, 1) := by decide +kernel
theorem dX0_left_85 : decode cX0_left 85 = .ok (.aload_n 0, 1) := by decide +kernel
theorem dX0_left_86 : decode cX0_left 86 = .ok (.iconst 0, 1) := by decide +kernel
theorem dX0_left_87 : decode cX0_left 87 = .ok (.bipush 19, 2) := by decide +kernel
theorem dX0_left_89 : decode cX0_left 89 = .ok (.aload_n 0, 1) := by decide +kernel
theorem dX0_left_90 : decode cX0_left 90 = .ok (.getfield 22, 3) := by decide +kernel
theorem dX0_left_93 : decode cX0_left 93 = .ok (.iconst 2, 1) := by decide +kernel
theorem dX0_left_94 : decode cX0_left 94 = .ok (.idiv, 1) := by decide +kernel
theorem dX0_left_95 : decode cX0_left 95 = .ok (.isub, 1) := by decide +kernel
theorem dX0_left_96 : decode cX0_left 96 = .ok (.invokevirtual 39, 3) := by decide +kernel
theorem dX0_left_99 : decode cX0_left 99 = .ok (.ireturn, 1) := by decide +kernel
theorem dX0_left_100 : decode cX0_left 100 = .ok (.aload_n 0, 1) := by decide +kernel
theorem dX0_left_101 : decode cX0_left 101 = .ok (.getfield 19, 3) := by decide +kernel
theorem dX0_left_104 : decode cX0_left 104 = .ok (.ireturn, 1) := by decide +kernel
theorem dX0_heldBetween_0 : decode cX0_heldBetween 0 = .ok (.iconst 0, 1) := by decide +kernel
theorem dX0_heldBetween_1 : decode cX0_heldBetween 1 = .ok (.istore_n 3, 1) := by decide +kernel
theorem dX0_heldBetween_2 : decode cX0_heldBetween 2 = .ok (.iconst 0, 1) := by decide +kernel
theorem dX0_heldBetween_3 : decode cX0_heldBetween 3 = .ok (.istore 4, 2) := by decide +kernel
theorem dX0_heldBetween_5 : decode cX0_heldBetween 5 = .ok (.iload 4, 2) := by decide +kernel
theorem dX0_heldBetween_7 : decode cX0_heldBetween 7 = .ok (.bipush 20, 2) := by decide +kernel
theorem dX0_heldBetween_9 : decode cX0_heldBetween 9 = .ok (.if_icmp .ge 34, 3) := by decide +kernel
theorem dX0_heldBetween_12 : decode cX0_heldBetween 12 = .ok (.iload 4, 2) := by decide +kernel
theorem dX0_heldBetween_14 : decode cX0_heldBetween 14 = .ok (.aload_n 0, 1) := by decide +kernel
theorem dX0_heldBetween_15 : decode cX0_heldBetween 15 = .ok (.getfield 15, 3) := by decide +kernel
theorem dX0_heldBetween_18 : decode cX0_heldBetween 18 = .ok (.isub, 1) := by decide +kernel
theorem dX0_heldBetween_19 : decode cX0_heldBetween 19 = .ok (.invokestatic 43, 3) := by decide +kernel
theorem dX0_heldBetween_22 : decode cX0_heldBetween 22 = .ok (.iload_n 1, 1) := by decide +kernel
theorem dX0_heldBetween_23 : decode cX0_heldBetween 23 = .ok (.iload_n 2, 1) := by decide +kernel
theorem dX0_heldBetween_24 : decode cX0_heldBetween 24 = .ok (.invokestatic 49, 3) := by decide +kernel
theorem dX0_heldBetween_27 : decode cX0_heldBetween 27 = .ok (.ifCond .eq 10, 3) := by decide +kernel
theorem dX0_heldBetween_30 : decode cX0_heldBetween 30 = .ok (.iload_n 3, 1) := by decide +kernel
theorem dX0_heldBetween_31 : decode cX0_heldBetween 31 = .ok (.iconst 1, 1) := by decide +kernel
theorem dX0_heldBetween_32 : decode cX0_heldBetween 32 = .ok (.iload 4, 2) := by decide +kernel
theorem dX0_heldBetween_34 : decode cX0_heldBetween 34 = .ok (.ishl, 1) := by decide +kernel
theorem dX0_heldBetween_35 : decode cX0_heldBetween 35 = .ok (.ior, 1) := by decide +kernel
theorem dX0_heldBetween_36 : decode cX0_heldBetween 36 = .ok (.istore_n 3, 1) := by decide +kernel
theorem dX0_heldBetween_37 : decode cX0_heldBetween 37 = .ok (.iinc 4 1, 3) := by decide +kernel
theorem dX0_heldBetween_40 : decode cX0_heldBetween 40 = .ok (.goto (-35), 3) := by decide +kernel
theorem dX0_heldBetween_43 : decode cX0_heldBetween 43 = .ok (.iload_n 3, 1) := by decide +kernel
theorem dX0_heldBetween_44 : decode cX0_heldBetween 44 = .ok (.aload_n 0, 1) := by decide +kernel
theorem dX0_heldBetween_45 : decode cX0_heldBetween 45 = .ok (.getfield 19, 3) := by decide +kernel
theorem dX0_heldBetween_48 : decode cX0_heldBetween 48 = .ok (.iand, 1) := by decide +kernel
theorem dX0_heldBetween_49 : decode cX0_heldBetween 49 = .ok (.ireturn, 1) := by decide +kernel
theorem dX0_leagues_0 : decode cX0_leagues 0 = .ok (.aload_n 0, 1) := by decide +kernel
theorem dX0_leagues_1 : decode cX0_leagues 1 = .ok (.invokevirtual 53, 3) := by decide +kernel
theorem dX0_leagues_4 : decode cX0_leagues 4 = .ok (.istore_n 1, 1) := by decide +kernel
theorem dX0_leagues_5 : decode cX0_leagues 5 = .ok (.iconst 0, 1) := by decide +kernel
theorem dX0_leagues_6 : decode cX0_leagues 6 = .ok (.istore_n 2, 1) := by decide +kernel
theorem dX0_leagues_7 : decode cX0_leagues 7 = .ok (.iconst 0, 1) := by decide +kernel
theorem dX0_leagues_8 : decode cX0_leagues 8 = .ok (.istore_n 3, 1) := by decide +kernel
theorem dX0_leagues_9 : decode cX0_leagues 9 = .ok (.iload_n 3, 1) := by decide +kernel
theorem dX0_leagues_10 : decode cX0_leagues 10 = .ok (.bipush 20, 2) := by decide +kernel
theorem dX0_leagues_12 : decode cX0_leagues 12 = .ok (.if_icmp .ge 31, 3) := by decide +kernel
theorem dX0_leagues_15 : decode cX0_leagues 15 = .ok (.iload_n 1, 1) := by decide +kernel
theorem dX0_leagues_16 : decode cX0_leagues 16 = .ok (.iload_n 3, 1) := by decide +kernel
theorem dX0_leagues_17 : decode cX0_leagues 17 = .ok (.ishr, 1) := by decide +kernel
theorem dX0_leagues_18 : decode cX0_leagues 18 = .ok (.iconst 1, 1) := by decide +kernel
theorem dX0_leagues_19 : decode cX0_leagues 19 = .ok (.iand, 1) := by decide +kernel
theorem dX0_leagues_20 : decode cX0_leagues 20 = .ok (.ifCond .eq 17, 3) := by decide +kernel
theorem dX0_leagues_23 : decode cX0_leagues 23 = .ok (.iload_n 2, 1) := by decide +kernel
theorem dX0_leagues_24 : decode cX0_leagues 24 = .ok (.iload_n 3, 1) := by decide +kernel
theorem dX0_leagues_25 : decode cX0_leagues 25 = .ok (.aload_n 0, 1) := by decide +kernel
theorem dX0_leagues_26 : decode cX0_leagues 26 = .ok (.getfield 15, 3) := by decide +kernel
theorem dX0_leagues_29 : decode cX0_leagues 29 = .ok (.isub, 1) := by decide +kernel
theorem dX0_leagues_30 : decode cX0_leagues 30 = .ok (.invokestatic 43, 3) := by decide +kernel
theorem dX0_leagues_33 : decode cX0_leagues 33 = .ok (.invokestatic 57, 3) := by decide +kernel
theorem dX0_leagues_36 : decode cX0_leagues 36 = .ok (.istore_n 2, 1) := by decide +kernel
theorem dX0_leagues_37 : decode cX0_leagues 37 = .ok (.iinc 3 1, 3) := by decide +kernel
theorem dX0_leagues_40 : decode cX0_leagues 40 = .ok (.goto (-31), 3) := by decide +kernel
theorem dX0_leagues_43 : decode cX0_leagues 43 = .ok (.iload_n 2, 1) := by decide +kernel
theorem dX0_leagues_44 : decode cX0_leagues 44 = .ok (.ireturn, 1) := by decide +kernel
theorem dX0_priceBy_0 : decode cX0_priceBy 0 = .ok (.aload_n 0, 1) := by decide +kernel
theorem dX0_priceBy_1 : decode cX0_priceBy 1 = .ok (.getfield 29, 3) := by decide +kernel
theorem dX0_priceBy_4 : decode cX0_priceBy 4 = .ok (.tableswitch 89 1 6 #[40, 55, 61, 44, 59, 68], 40) := by decide +kernel
theorem dX0_priceBy_44 : decode cX0_priceBy 44 = .ok (.iconst 2, 1) := by decide +kernel
theorem dX0_priceBy_45 : decode cX0_priceBy 45 = .ok (.iload_n 1, 1) := by decide +kernel
theorem dX0_priceBy_46 : decode cX0_priceBy 46 = .ok (.imul, 1) := by decide +kernel
theorem dX0_priceBy_47 : decode cX0_priceBy 47 = .ok (.ireturn, 1) := by decide +kernel
theorem dX0_priceBy_48 : decode cX0_priceBy 48 = .ok (.iconst 2, 1) := by decide +kernel
theorem dX0_priceBy_49 : decode cX0_priceBy 49 = .ok (.iload_n 1, 1) := by decide +kernel
theorem dX0_priceBy_50 : decode cX0_priceBy 50 = .ok (.imul, 1) := by decide +kernel
theorem dX0_priceBy_51 : decode cX0_priceBy 51 = .ok (.iconst 5, 1) := by decide +kernel
theorem dX0_priceBy_52 : decode cX0_priceBy 52 = .ok (.aload_n 0, 1) := by decide +kernel
theorem dX0_priceBy_53 : decode cX0_priceBy 53 = .ok (.getfield 32, 3) := by decide +kernel
theorem dX0_priceBy_56 : decode cX0_priceBy 56 = .ok (.imul, 1) := by decide +kernel
theorem dX0_priceBy_57 : decode cX0_priceBy 57 = .ok (.iadd, 1) := by decide +kernel
theorem dX0_priceBy_58 : decode cX0_priceBy 58 = .ok (.ireturn, 1) := by decide +kernel
theorem dX0_priceBy_59 : decode cX0_priceBy 59 = .ok (.iload_n 1, 1) := by decide +kernel
theorem dX0_priceBy_60 : decode cX0_priceBy 60 = .ok (.iconst 2, 1) := by decide +kernel
theorem dX0_priceBy_61 : decode cX0_priceBy 61 = .ok (.idiv, 1) := by decide +kernel
theorem dX0_priceBy_62 : decode cX0_priceBy 62 = .ok (.ireturn, 1) := by decide +kernel
theorem dX0_priceBy_63 : decode cX0_priceBy 63 = .ok (.iconst 1, 1) := by decide +kernel
theorem dX0_priceBy_64 : decode cX0_priceBy 64 = .ok (.ireturn, 1) := by decide +kernel
theorem dX0_priceBy_65 : decode cX0_priceBy 65 = .ok (.iload_n 1, 1) := by decide +kernel
theorem dX0_priceBy_66 : decode cX0_priceBy 66 = .ok (.aload_n 0, 1) := by decide +kernel
theorem dX0_priceBy_67 : decode cX0_priceBy 67 = .ok (.getfield 22, 3) := by decide +kernel
theorem dX0_priceBy_70 : decode cX0_priceBy 70 = .ok (.iadd, 1) := by decide +kernel
theorem dX0_priceBy_71 : decode cX0_priceBy 71 = .ok (.ireturn, 1) := by decide +kernel
theorem dX0_priceBy_72 : decode cX0_priceBy 72 = .ok (.iload_n 1, 1) := by decide +kernel
theorem dX0_priceBy_73 : decode cX0_priceBy 73 = .ok (.aload_n 0, 1) := by decide +kernel
theorem dX0_priceBy_74 : decode cX0_priceBy 74 = .ok (.getfield 22, 3) := by decide +kernel
theorem dX0_priceBy_77 : decode cX0_priceBy 77 = .ok (.iadd, 1) := by decide +kernel
theorem dX0_priceBy_78 : decode cX0_priceBy 78 = .ok (.aload_n 0, 1) := by decide +kernel
theorem dX0_priceBy_79 : decode cX0_priceBy 79 = .ok (.getfield 22, 3) := by decide +kernel
theorem dX0_priceBy_82 : decode cX0_priceBy 82 = .ok (.aload_n 0, 1) := by decide +kernel
theorem dX0_priceBy_83 : decode cX0_priceBy 83 = .ok (.getfield 32, 3) := by decide +kernel
theorem dX0_priceBy_86 : decode cX0_priceBy 86 = .ok (.iconst 1, 1) := by decide +kernel
theorem dX0_priceBy_87 : decode cX0_priceBy 87 = .ok (.iadd, 1) := by decide +kernel
theorem dX0_priceBy_88 : decode cX0_priceBy 88 = .ok (.invokestatic 60, 3) := by decide +kernel
theorem dX0_priceBy_91 : decode cX0_priceBy 91 = .ok (.iadd, 1) := by decide +kernel
theorem dX0_priceBy_92 : decode cX0_priceBy 92 = .ok (.ireturn, 1) := by decide +kernel
theorem dX0_priceBy_93 : decode cX0_priceBy 93 = .ok (.iload_n 1, 1) := by decide +kernel
theorem dX0_priceBy_94 : decode cX0_priceBy 94 = .ok (.ireturn, 1) := by decide +kernel
theorem dX0_ageDay_0 : decode cX0_ageDay 0 = .ok (.aload_n 0, 1) := by decide +kernel
theorem dX0_ageDay_1 : decode cX0_ageDay 1 = .ok (.getfield 25, 3) := by decide +kernel
theorem dX0_ageDay_4 : decode cX0_ageDay 4 = .ok (.ifCond .ne 18, 3) := by decide +kernel
theorem dX0_ageDay_7 : decode cX0_ageDay 7 = .ok (.aload_n 0, 1) := by decide +kernel
theorem dX0_ageDay_8 : decode cX0_ageDay 8 = .ok (.bipush 99, 2) := by decide +kernel
theorem dX0_ageDay_10 : decode cX0_ageDay 10 = .ok (.aload_n 0, 1) := by decide +kernel
theorem dX0_ageDay_11 : decode cX0_ageDay 11 = .ok (.getfield 22, 3) := by decide +kernel
theorem dX0_ageDay_14 : decode cX0_ageDay 14 = .ok (.iconst 1, 1) := by decide +kernel
theorem dX0_ageDay_15 : decode cX0_ageDay 15 = .ok (.iadd, 1) := by decide +kernel
theorem dX0_ageDay_16 : decode cX0_ageDay 16 = .ok (.invokestatic 63, 3) := by decide +kernel
theorem dX0_ageDay_19 : decode cX0_ageDay 19 = .ok (.putfield 22, 3) := by decide +kernel
theorem dX0_ageDay_22 : decode cX0_ageDay 22 = .ok (.return_, 1) := by decide +kernel
theorem dX0_copyBottle_0 : decode cX0_copyBottle 0 = .ok (.aload_n 0, 1) := by decide +kernel
theorem dX0_copyBottle_1 : decode cX0_copyBottle 1 = .ok (.aload_n 1, 1) := by decide +kernel
theorem dX0_copyBottle_2 : decode cX0_copyBottle 2 = .ok (.getfield 29, 3) := by decide +kernel
theorem dX0_copyBottle_5 : decode cX0_copyBottle 5 = .ok (.putfield 29, 3) := by decide +kernel
theorem dX0_copyBottle_8 : decode cX0_copyBottle 8 = .ok (.aload_n 0, 1) := by decide +kernel
theorem dX0_copyBottle_9 : decode cX0_copyBottle 9 = .ok (.aload_n 1, 1) := by decide +kernel
theorem dX0_copyBottle_10 : decode cX0_copyBottle 10 = .ok (.getfield 32, 3) := by decide +kernel
theorem dX0_copyBottle_13 : decode cX0_copyBottle 13 = .ok (.putfield 32, 3) := by decide +kernel
theorem dX0_copyBottle_16 : decode cX0_copyBottle 16 = .ok (.aload_n 0, 1) := by decide +kernel
theorem dX0_copyBottle_17 : decode cX0_copyBottle 17 = .ok (.aload_n 1, 1) := by decide +kernel
theorem dX0_copyBottle_18 : decode cX0_copyBottle 18 = .ok (.getfield 15, 3) := by decide +kernel
theorem dX0_copyBottle_21 : decode cX0_copyBottle 21 = .ok (.putfield 15, 3) := by decide +kernel
theorem dX0_copyBottle_24 : decode cX0_copyBottle 24 = .ok (.aload_n 0, 1) := by decide +kernel
theorem dX0_copyBottle_25 : decode cX0_copyBottle 25 = .ok (.aload_n 1, 1) := by decide +kernel
theorem dX0_copyBottle_26 : decode cX0_copyBottle 26 = .ok (.getfield 19, 3) := by decide +kernel
theorem dX0_copyBottle_29 : decode cX0_copyBottle 29 = .ok (.putfield 19, 3) := by decide +kernel
theorem dX0_copyBottle_32 : decode cX0_copyBottle 32 = .ok (.aload_n 0, 1) := by decide +kernel
theorem dX0_copyBottle_33 : decode cX0_copyBottle 33 = .ok (.aload_n 1, 1) := by decide +kernel
theorem dX0_copyBottle_34 : decode cX0_copyBottle 34 = .ok (.getfield 22, 3) := by decide +kernel
theorem dX0_copyBottle_37 : decode cX0_copyBottle 37 = .ok (.putfield 22, 3) := by decide +kernel
theorem dX0_copyBottle_40 : decode cX0_copyBottle 40 = .ok (.aload_n 0, 1) := by decide +kernel
theorem dX0_copyBottle_41 : decode cX0_copyBottle 41 = .ok (.aload_n 1, 1) := by decide +kernel
theorem dX0_copyBottle_42 : decode cX0_copyBottle 42 = .ok (.getfield 25, 3) := by decide +kernel
theorem dX0_copyBottle_45 : decode cX0_copyBottle 45 = .ok (.putfield 25, 3) := by decide +kernel
theorem dX0_copyBottle_48 : decode cX0_copyBottle 48 = .ok (.return_, 1) := by decide +kernel
theorem dX1_init_0 : decode cX1_init 0 = .ok (.aload_n 0, 1) := by decide +kernel
theorem dX1_init_1 : decode cX1_init 1 = .ok (.invokespecial 3, 3) := by decide +kernel
theorem dX1_init_4 : decode cX1_init 4 = .ok (.aload_n 0, 1) := by decide +kernel
theorem dX1_init_5 : decode cX1_init 5 = .ok (.bipush 20, 2) := by decide +kernel
theorem dX1_init_7 : decode cX1_init 7 = .ok (.newarray .int, 2) := by decide +kernel
theorem dX1_init_9 : decode cX1_init 9 = .ok (.putfield 9, 3) := by decide +kernel
theorem dX1_init_12 : decode cX1_init 12 = .ok (.aload_n 0, 1) := by decide +kernel
theorem dX1_init_13 : decode cX1_init 13 = .ok (.bipush 20, 2) := by decide +kernel
theorem dX1_init_15 : decode cX1_init 15 = .ok (.newarray .int, 2) := by decide +kernel
theorem dX1_init_17 : decode cX1_init 17 = .ok (.putfield 15, 3) := by decide +kernel
theorem dX1_init_20 : decode cX1_init 20 = .ok (.iconst 0, 1) := by decide +kernel
theorem dX1_init_21 : decode cX1_init 21 = .ok (.istore_n 1, 1) := by decide +kernel
theorem dX1_init_22 : decode cX1_init 22 = .ok (.iload_n 1, 1) := by decide +kernel
theorem dX1_init_23 : decode cX1_init 23 = .ok (.bipush 20, 2) := by decide +kernel
theorem dX1_init_25 : decode cX1_init 25 = .ok (.if_icmp .ge 16, 3) := by decide +kernel
theorem dX1_init_28 : decode cX1_init 28 = .ok (.aload_n 0, 1) := by decide +kernel
theorem dX1_init_29 : decode cX1_init 29 = .ok (.getfield 9, 3) := by decide +kernel
theorem dX1_init_32 : decode cX1_init 32 = .ok (.iload_n 1, 1) := by decide +kernel
theorem dX1_init_33 : decode cX1_init 33 = .ok (.iconst 5, 1) := by decide +kernel
theorem dX1_init_34 : decode cX1_init 34 = .ok (.iastore, 1) := by decide +kernel
theorem dX1_init_35 : decode cX1_init 35 = .ok (.iinc 1 1, 3) := by decide +kernel
theorem dX1_init_38 : decode cX1_init 38 = .ok (.goto (-16), 3) := by decide +kernel
theorem dX1_init_41 : decode cX1_init 41 = .ok (.return_, 1) := by decide +kernel
theorem dX1_goneBehind_0 : decode cX1_goneBehind 0 = .ok (.iconst 0, 1) := by decide +kernel
theorem dX1_goneBehind_1 : decode cX1_goneBehind 1 = .ok (.istore_n 2, 1) := by decide +kernel
theorem dX1_goneBehind_2 : decode cX1_goneBehind 2 = .ok (.iconst 0, 1) := by decide +kernel
theorem dX1_goneBehind_3 : decode cX1_goneBehind 3 = .ok (.istore_n 3, 1) := by decide +kernel
theorem dX1_goneBehind_4 : decode cX1_goneBehind 4 = .ok (.iload_n 3, 1) := by decide +kernel
theorem dX1_goneBehind_5 : decode cX1_goneBehind 5 = .ok (.bipush 20, 2) := by decide +kernel
theorem dX1_goneBehind_7 : decode cX1_goneBehind 7 = .ok (.if_icmp .ge 25, 3) := by decide +kernel
theorem dX1_goneBehind_10 : decode cX1_goneBehind 10 = .ok (.aload_n 0, 1) := by decide +kernel
theorem dX1_goneBehind_11 : decode cX1_goneBehind 11 = .ok (.getfield 15, 3) := by decide +kernel
theorem dX1_goneBehind_14 : decode cX1_goneBehind 14 = .ok (.iload_n 3, 1) := by decide +kernel
theorem dX1_goneBehind_15 : decode cX1_goneBehind 15 = .ok (.iaload, 1) := by decide +kernel
theorem dX1_goneBehind_16 : decode cX1_goneBehind 16 = .ok (.iload_n 1, 1) := by decide +kernel
theorem dX1_goneBehind_17 : decode cX1_goneBehind 17 = .ok (.if_icmp .le 9, 3) := by decide +kernel
theorem dX1_goneBehind_20 : decode cX1_goneBehind 20 = .ok (.iload_n 2, 1) := by decide +kernel
theorem dX1_goneBehind_21 : decode cX1_goneBehind 21 = .ok (.iconst 1, 1) := by decide +kernel
theorem dX1_goneBehind_22 : decode cX1_goneBehind 22 = .ok (.iload_n 3, 1) := by decide +kernel
theorem dX1_goneBehind_23 : decode cX1_goneBehind 23 = .ok (.ishl, 1) := by decide +kernel
theorem dX1_goneBehind_24 : decode cX1_goneBehind 24 = .ok (.ior, 1) := by decide +kernel
theorem dX1_goneBehind_25 : decode cX1_goneBehind 25 = .ok (.istore_n 2, 1) := by decide +kernel
theorem dX1_goneBehind_26 : decode cX1_goneBehind 26 = .ok (.iinc 3 1, 3) := by decide +kernel
theorem dX1_goneBehind_29 : decode cX1_goneBehind 29 = .ok (.goto (-25), 3) := by decide +kernel
theorem dX1_goneBehind_32 : decode cX1_goneBehind 32 = .ok (.iload_n 2, 1) := by decide +kernel
theorem dX1_goneBehind_33 : decode cX1_goneBehind 33 = .ok (.ireturn, 1) := by decide +kernel
theorem dX1_sees_0 : decode cX1_sees 0 = .ok (.iload_n 1, 1) := by decide +kernel
theorem dX1_sees_1 : decode cX1_sees 1 = .ok (.iload_n 2, 1) := by decide +kernel
theorem dX1_sees_2 : decode cX1_sees 2 = .ok (.if_icmp .eq 12, 3) := by decide +kernel
theorem dX1_sees_5 : decode cX1_sees 5 = .ok (.iload 4, 2) := by decide +kernel
theorem dX1_sees_7 : decode cX1_sees 7 = .ok (.iload_n 2, 1) := by decide +kernel
theorem dX1_sees_8 : decode cX1_sees 8 = .ok (.ishr, 1) := by decide +kernel
theorem dX1_sees_9 : decode cX1_sees 9 = .ok (.iconst 1, 1) := by decide +kernel
theorem dX1_sees_10 : decode cX1_sees 10 = .ok (.iand, 1) := by decide +kernel
theorem dX1_sees_11 : decode cX1_sees 11 = .ok (.ifCond .eq 5, 3) := by decide +kernel
theorem dX1_sees_14 : decode cX1_sees 14 = .ok (.iconst 0, 1) := by decide +kernel
theorem dX1_sees_15 : decode cX1_sees 15 = .ok (.ireturn, 1) := by decide +kernel
theorem dX1_sees_16 : decode cX1_sees 16 = .ok (.iload_n 2, 1) := by decide +kernel
theorem dX1_sees_17 : decode cX1_sees 17 = .ok (.iload_n 1, 1) := by decide +kernel
theorem dX1_sees_18 : decode cX1_sees 18 = .ok (.if_icmp .le 7, 3) := by decide +kernel
theorem dX1_sees_21 : decode cX1_sees 21 = .ok (.iconst 1, 1) := by decide +kernel
theorem dX1_sees_22 : decode cX1_sees 22 = .ok (.goto 4, 3) := by decide +kernel
theorem dX1_sees_25 : decode cX1_sees 25 = .ok (.iconst (-1), 1) := by decide +kernel
theorem dX1_sees_26 : decode cX1_sees 26 = .ok (.istore 5, 2) := by decide +kernel
theorem dX1_sees_28 : decode cX1_sees 28 = .ok (.iload_n 2, 1) := by decide +kernel
theorem dX1_sees_29 : decode cX1_sees 29 = .ok (.iload_n 1, 1) := by decide +kernel
theorem dX1_sees_30 : decode cX1_sees 30 = .ok (.isub, 1) := by decide +kernel
theorem dX1_sees_31 : decode cX1_sees 31 = .ok (.invokestatic 18, 3) := by decide +kernel
theorem dX1_sees_34 : decode cX1_sees 34 = .ok (.istore 6, 2) := by decide +kernel
theorem dX1_sees_36 : decode cX1_sees 36 = .ok (.aload_n 0, 1) := by decide +kernel
theorem dX1_sees_37 : decode cX1_sees 37 = .ok (.getfield 9, 3) := by decide +kernel
theorem dX1_sees_40 : decode cX1_sees 40 = .ok (.iload_n 1, 1) := by decide +kernel
theorem dX1_sees_41 : decode cX1_sees 41 = .ok (.iaload, 1) := by decide +kernel
theorem dX1_sees_42 : decode cX1_sees 42 = .ok (.iload_n 3, 1) := by decide +kernel
theorem dX1_sees_43 : decode cX1_sees 43 = .ok (.iadd, 1) := by decide +kernel
theorem dX1_sees_44 : decode cX1_sees 44 = .ok (.istore 7, 2) := by decide +kernel
theorem dX1_sees_46 : decode cX1_sees 46 = .ok (.aload_n 0, 1) := by decide +kernel
theorem dX1_sees_47 : decode cX1_sees 47 = .ok (.getfield 9, 3) := by decide +kernel
theorem dX1_sees_50 : decode cX1_sees 50 = .ok (.iload_n 2, 1) := by decide +kernel
theorem dX1_sees_51 : decode cX1_sees 51 = .ok (.iaload, 1) := by decide +kernel
theorem dX1_sees_52 : decode cX1_sees 52 = .ok (.iload 7, 2) := by decide +kernel
theorem dX1_sees_54 : decode cX1_sees 54 = .ok (.isub, 1) := by decide +kernel
theorem dX1_sees_55 : decode cX1_sees 55 = .ok (.istore 8, 2) := by decide +kernel
theorem dX1_sees_57 : decode cX1_sees 57 = .ok (.iconst 1, 1) := by decide +kernel
theorem dX1_sees_58 : decode cX1_sees 58 = .ok (.istore 9, 2) := by decide +kernel
theorem dX1_sees_60 : decode cX1_sees 60 = .ok (.iload 9, 2) := by decide +kernel
theorem dX1_sees_62 : decode cX1_sees 62 = .ok (.iload 6, 2) := by decide +kernel
theorem dX1_sees_64 : decode cX1_sees 64 = .ok (.if_icmp .ge 63, 3) := by decide +kernel
theorem dX1_sees_67 : decode cX1_sees 67 = .ok (.iload_n 1, 1) := by decide +kernel
theorem dX1_sees_68 : decode cX1_sees 68 = .ok (.iload 5, 2) := by decide +kernel
theorem dX1_sees_70 : decode cX1_sees 70 = .ok (.iload 9, 2) := by decide +kernel
theorem dX1_sees_72 : decode cX1_sees 72 = .ok (.imul, 1) := by decide +kernel
theorem dX1_sees_73 : decode cX1_sees 73 = .ok (.iadd, 1) := by decide +kernel
theorem dX1_sees_74 : decode cX1_sees 74 = .ok (.istore 10, 2) := by decide +kernel
theorem dX1_sees_76 : decode cX1_sees 76 = .ok (.iload 4, 2) := by decide +kernel
theorem dX1_sees_78 : decode cX1_sees 78 = .ok (.iload 10, 2) := by decide +kernel
theorem dX1_sees_80 : decode cX1_sees 80 = .ok (.ishr, 1) := by decide +kernel
theorem dX1_sees_81 : decode cX1_sees 81 = .ok (.iconst 1, 1) := by decide +kernel
theorem dX1_sees_82 : decode cX1_sees 82 = .ok (.iand, 1) := by decide +kernel
theorem dX1_sees_83 : decode cX1_sees 83 = .ok (.ifCond .ne 7, 3) := by decide +kernel
theorem dX1_sees_86 : decode cX1_sees 86 = .ok (.iconst 1, 1) := by decide +kernel
theorem dX1_sees_87 : decode cX1_sees 87 = .ok (.goto 4, 3) := by decide +kernel
theorem dX1_sees_90 : decode cX1_sees 90 = .ok (.iconst 0, 1) := by decide +kernel
theorem dX1_sees_91 : decode cX1_sees 91 = .ok (.istore 11, 2) := by decide +kernel
theorem dX1_sees_93 : decode cX1_sees 93 = .ok (.iload 11, 2) := by decide +kernel
theorem dX1_sees_95 : decode cX1_sees 95 = .ok (.ifCond .eq 26, 3) := by decide +kernel
theorem dX1_sees_98 : decode cX1_sees 98 = .ok (.aload_n 0, 1) := by decide +kernel
theorem dX1_sees_99 : decode cX1_sees 99 = .ok (.getfield 9, 3) := by decide +kernel
theorem dX1_sees_102 : decode cX1_sees 102 = .ok (.iload 10, 2) := by decide +kernel
theorem dX1_sees_104 : decode cX1_sees 104 = .ok (.iaload, 1) := by decide +kernel
theorem dX1_sees_105 : decode cX1_sees 105 = .ok (.iload 7, 2) := by decide +kernel
theorem dX1_sees_107 : decode cX1_sees 107 = .ok (.isub, 1) := by decide +kernel
theorem dX1_sees_108 : decode cX1_sees 108 = .ok (.iload 6, 2) := by decide +kernel
theorem dX1_sees_110 : decode cX1_sees 110 = .ok (.imul, 1) := by decide +kernel
theorem dX1_sees_111 : decode cX1_sees 111 = .ok (.iload 8, 2) := by decide +kernel
theorem dX1_sees_113 : decode cX1_sees 113 = .ok (.iload 9, 2) := by decide +kernel
theorem dX1_sees_115 : decode cX1_sees 115 = .ok (.imul, 1) := by decide +kernel
theorem dX1_sees_116 : decode cX1_sees 116 = .ok (.if_icmp .lt 5, 3) := by decide +kernel
theorem dX1_sees_119 : decode cX1_sees 119 = .ok (.iconst 0, 1) := by decide +kernel
theorem dX1_sees_120 : decode cX1_sees 120 = .ok (.ireturn, 1) := by decide +kernel
theorem dX1_sees_121 : decode cX1_sees 121 = .ok (.iinc 9 1, 3) := by decide +kernel
theorem dX1_sees_124 : decode cX1_sees 124 = .ok (.goto (-64), 3) := by decide +kernel
theorem dX1_sees_127 : decode cX1_sees 127 = .ok (.iconst 1, 1) := by decide +kernel
theorem dX1_sees_128 : decode cX1_sees 128 = .ok (.ireturn, 1) := by decide +kernel
theorem dX1_seenFrom_0 : decode cX1_seenFrom 0 = .ok (.iload_n 2, 1) := by decide +kernel
theorem dX1_seenFrom_1 : decode cX1_seenFrom 1 = .ok (.ifCond .ne 7, 3) := by decide +kernel
theorem dX1_seenFrom_4 : decode cX1_seenFrom 4 = .ok (.iconst 0, 1) := by decide +kernel
theorem dX1_seenFrom_5 : decode cX1_seenFrom 5 = .ok (.goto 6, 3) := by decide +kernel
theorem dX1_seenFrom_8 : decode cX1_seenFrom 8 = .ok (.iload_n 1, 1) := by decide +kernel
theorem dX1_seenFrom_9 : decode cX1_seenFrom 9 = .ok (.iconst 1, 1) := by decide +kernel
theorem dX1_seenFrom_10 : decode cX1_seenFrom 10 = .ok (.iadd, 1) := by decide +kernel
theorem dX1_seenFrom_11 : decode cX1_seenFrom 11 = .ok (.istore 4, 2) := by decide +kernel
theorem dX1_seenFrom_13 : decode cX1_seenFrom 13 = .ok (.iload_n 2, 1) := by decide +kernel
theorem dX1_seenFrom_14 : decode cX1_seenFrom 14 = .ok (.ifCond .ne 7, 3) := by decide +kernel
theorem dX1_seenFrom_17 : decode cX1_seenFrom 17 = .ok (.iload_n 1, 1) := by decide +kernel
theorem dX1_seenFrom_18 : decode cX1_seenFrom 18 = .ok (.goto 5, 3) := by decide +kernel
theorem dX1_seenFrom_21 : decode cX1_seenFrom 21 = .ok (.bipush 20, 2) := by decide +kernel
theorem dX1_seenFrom_23 : decode cX1_seenFrom 23 = .ok (.istore 5, 2) := by decide +kernel
theorem dX1_seenFrom_25 : decode cX1_seenFrom 25 = .ok (.iconst 0, 1) := by decide +kernel
theorem dX1_seenFrom_26 : decode cX1_seenFrom 26 = .ok (.istore 6, 2) := by decide +kernel
theorem dX1_seenFrom_28 : decode cX1_seenFrom 28 = .ok (.iload 4, 2) := by decide +kernel
theorem dX1_seenFrom_30 : decode cX1_seenFrom 30 = .ok (.istore 7, 2) := by decide +kernel
theorem dX1_seenFrom_32 : decode cX1_seenFrom 32 = .ok (.iload 7, 2) := by decide +kernel
theorem dX1_seenFrom_34 : decode cX1_seenFrom 34 = .ok (.iload 5, 2) := by decide +kernel
theorem dX1_seenFrom_36 : decode cX1_seenFrom 36 = .ok (.if_icmp .ge 30, 3) := by decide +kernel
theorem dX1_seenFrom_39 : decode cX1_seenFrom 39 = .ok (.aload_n 0, 1) := by decide +kernel
theorem dX1_seenFrom_40 : decode cX1_seenFrom 40 = .ok (.iload_n 1, 1) := by decide +kernel
theorem dX1_seenFrom_41 : decode cX1_seenFrom 41 = .ok (.iload 7, 2) := by decide +kernel
theorem dX1_seenFrom_43 : decode cX1_seenFrom 43 = .ok (.iconst 0, 1) := by decide +kernel
theorem dX1_seenFrom_44 : decode cX1_seenFrom 44 = .ok (.iload_n 3, 1) := by decide +kernel
theorem dX1_seenFrom_45 : decode cX1_seenFrom 45 = .ok (.invokevirtual 24, 3) := by decide +kernel
theorem dX1_seenFrom_48 : decode cX1_seenFrom 48 = .ok (.ifCond .eq 12, 3) := by decide +kernel
theorem dX1_seenFrom_51 : decode cX1_seenFrom 51 = .ok (.iload 6, 2) := by decide +kernel
theorem dX1_seenFrom_53 : decode cX1_seenFrom 53 = .ok (.iconst 1, 1) := by decide +kernel
theorem dX1_seenFrom_54 : decode cX1_seenFrom 54 = .ok (.iload 7, 2) := by decide +kernel
theorem dX1_seenFrom_56 : decode cX1_seenFrom 56 = .ok (.ishl, 1) := by decide +kernel
theorem dX1_seenFrom_57 : decode cX1_seenFrom 57 = .ok (.ior, 1) := by decide +kernel
theorem dX1_seenFrom_58 : decode cX1_seenFrom 58 = .ok (.istore 6, 2) := by decide +kernel
theorem dX1_seenFrom_60 : decode cX1_seenFrom 60 = .ok (.iinc 7 1, 3) := by decide +kernel
theorem dX1_seenFrom_63 : decode cX1_seenFrom 63 = .ok (.goto (-31), 3) := by decide +kernel
theorem dX1_seenFrom_66 : decode cX1_seenFrom 66 = .ok (.iload 6, 2) := by decide +kernel
theorem dX1_seenFrom_68 : decode cX1_seenFrom 68 = .ok (.ireturn, 1) := by decide +kernel
theorem dX1_seenAround_0 : decode cX1_seenAround 0 = .ok (.aload_n 0, 1) := by decide +kernel
theorem dX1_seenAround_1 : decode cX1_seenAround 1 = .ok (.iload_n 1, 1) := by decide +kernel
theorem dX1_seenAround_2 : decode cX1_seenAround 2 = .ok (.iconst 0, 1) := by decide +kernel
theorem dX1_seenAround_3 : decode cX1_seenAround 3 = .ok (.iload_n 2, 1) := by decide +kernel
theorem dX1_seenAround_4 : decode cX1_seenAround 4 = .ok (.invokevirtual 28, 3) := by decide +kernel
theorem dX1_seenAround_7 : decode cX1_seenAround 7 = .ok (.aload_n 0, 1) := by decide +kernel
theorem dX1_seenAround_8 : decode cX1_seenAround 8 = .ok (.iload_n 1, 1) := by decide +kernel
theorem dX1_seenAround_9 : decode cX1_seenAround 9 = .ok (.iconst 1, 1) := by decide +kernel
theorem dX1_seenAround_10 : decode cX1_seenAround 10 = .ok (.iload_n 2, 1) := by decide +kernel
theorem dX1_seenAround_11 : decode cX1_seenAround 11 = .ok (.invokevirtual 28, 3) := by decide +kernel
theorem dX1_seenAround_14 : decode cX1_seenAround 14 = .ok (.ior, 1) := by decide +kernel
theorem dX1_seenAround_15 : decode cX1_seenAround 15 = .ok (.ireturn, 1) := by decide +kernel
theorem dX1_bringBack_0 : decode cX1_bringBack 0 = .ok (.iconst 0, 1) := by decide +kernel
theorem dX1_bringBack_1 : decode cX1_bringBack 1 = .ok (.istore_n 2, 1) := by decide +kernel
theorem dX1_bringBack_2 : decode cX1_bringBack 2 = .ok (.iload_n 2, 1) := by decide +kernel
theorem dX1_bringBack_3 : decode cX1_bringBack 3 = .ok (.bipush 20, 2) := by decide +kernel
theorem dX1_bringBack_5 : decode cX1_bringBack 5 = .ok (.if_icmp .ge 24, 3) := by decide +kernel
theorem dX1_bringBack_8 : decode cX1_bringBack 8 = .ok (.iload_n 1, 1) := by decide +kernel
theorem dX1_bringBack_9 : decode cX1_bringBack 9 = .ok (.iload_n 2, 1) := by decide +kernel
theorem dX1_bringBack_10 : decode cX1_bringBack 10 = .ok (.ishr, 1) := by decide +kernel
theorem dX1_bringBack_11 : decode cX1_bringBack 11 = .ok (.iconst 1, 1) := by decide +kernel
theorem dX1_bringBack_12 : decode cX1_bringBack 12 = .ok (.iand, 1) := by decide +kernel
theorem dX1_bringBack_13 : decode cX1_bringBack 13 = .ok (.ifCond .eq 10, 3) := by decide +kernel
theorem dX1_bringBack_16 : decode cX1_bringBack 16 = .ok (.aload_n 0, 1) := by decide +kernel
theorem dX1_bringBack_17 : decode cX1_bringBack 17 = .ok (.getfield 15, 3) := by decide +kernel
theorem dX1_bringBack_20 : decode cX1_bringBack 20 = .ok (.iload_n 2, 1) := by decide +kernel
theorem dX1_bringBack_21 : decode cX1_bringBack 21 = .ok (.iconst 0, 1) := by decide +kernel
theorem dX1_bringBack_22 : decode cX1_bringBack 22 = .ok (.iastore, 1) := by decide +kernel
theorem dX1_bringBack_23 : decode cX1_bringBack 23 = .ok (.iinc 2 1, 3) := by decide +kernel
theorem dX1_bringBack_26 : decode cX1_bringBack 26 = .ok (.goto (-24), 3) := by decide +kernel
theorem dX1_bringBack_29 : decode cX1_bringBack 29 = .ok (.return_, 1) := by decide +kernel
theorem dX1_growDay_0 : decode cX1_growDay 0 = .ok (.iconst 0, 1) := by decide +kernel
theorem dX1_growDay_1 : decode cX1_growDay 1 = .ok (.istore_n 1, 1) := by decide +kernel
theorem dX1_growDay_2 : decode cX1_growDay 2 = .ok (.iload_n 1, 1) := by decide +kernel
theorem dX1_growDay_3 : decode cX1_growDay 3 = .ok (.bipush 20, 2) := by decide +kernel
theorem dX1_growDay_5 : decode cX1_growDay 5 = .ok (.if_icmp .ge 27, 3) := by decide +kernel
theorem dX1_growDay_8 : decode cX1_growDay 8 = .ok (.aload_n 0, 1) := by decide +kernel
theorem dX1_growDay_9 : decode cX1_growDay 9 = .ok (.getfield 15, 3) := by decide +kernel
theorem dX1_growDay_12 : decode cX1_growDay 12 = .ok (.iload_n 1, 1) := by decide +kernel
theorem dX1_growDay_13 : decode cX1_growDay 13 = .ok (.iconst 0, 1) := by decide +kernel
theorem dX1_growDay_14 : decode cX1_growDay 14 = .ok (.aload_n 0, 1) := by decide +kernel
theorem dX1_growDay_15 : decode cX1_growDay 15 = .ok (.getfield 15, 3) := by decide +kernel
theorem dX1_growDay_18 : decode cX1_growDay 18 = .ok (.iload_n 1, 1) := by decide +kernel
theorem dX1_growDay_19 : decode cX1_growDay 19 = .ok (.iaload, 1) := by decide +kernel
theorem dX1_growDay_20 : decode cX1_growDay 20 = .ok (.iconst 1, 1) := by decide +kernel
theorem dX1_growDay_21 : decode cX1_growDay 21 = .ok (.isub, 1) := by decide +kernel
theorem dX1_growDay_22 : decode cX1_growDay 22 = .ok (.invokestatic 32, 3) := by decide +kernel
theorem dX1_growDay_25 : decode cX1_growDay 25 = .ok (.iastore, 1) := by decide +kernel
theorem dX1_growDay_26 : decode cX1_growDay 26 = .ok (.iinc 1 1, 3) := by decide +kernel
theorem dX1_growDay_29 : decode cX1_growDay 29 = .ok (.goto (-27), 3) := by decide +kernel
theorem dX1_growDay_32 : decode cX1_growDay 32 = .ok (.return_, 1) := by decide +kernel
theorem dX1_copyLand_0 : decode cX1_copyLand 0 = .ok (.aload_n 1, 1) := by decide +kernel
theorem dX1_copyLand_1 : decode cX1_copyLand 1 = .ok (.getfield 9, 3) := by decide +kernel
theorem dX1_copyLand_4 : decode cX1_copyLand 4 = .ok (.iconst 0, 1) := by decide +kernel
theorem dX1_copyLand_5 : decode cX1_copyLand 5 = .ok (.aload_n 0, 1) := by decide +kernel
theorem dX1_copyLand_6 : decode cX1_copyLand 6 = .ok (.getfield 9, 3) := by decide +kernel
theorem dX1_copyLand_9 : decode cX1_copyLand 9 = .ok (.iconst 0, 1) := by decide +kernel
theorem dX1_copyLand_10 : decode cX1_copyLand 10 = .ok (.bipush 20, 2) := by decide +kernel
theorem dX1_copyLand_12 : decode cX1_copyLand 12 = .ok (.invokestatic 36, 3) := by decide +kernel
theorem dX1_copyLand_15 : decode cX1_copyLand 15 = .ok (.aload_n 1, 1) := by decide +kernel
theorem dX1_copyLand_16 : decode cX1_copyLand 16 = .ok (.getfield 15, 3) := by decide +kernel
theorem dX1_copyLand_19 : decode cX1_copyLand 19 = .ok (.iconst 0, 1) := by decide +kernel
theorem dX1_copyLand_20 : decode cX1_copyLand 20 = .ok (.aload_n 0, 1) := by decide +kernel
theorem dX1_copyLand_21 : decode cX1_copyLand 21 = .ok (.getfield 15, 3) := by decide +kernel
theorem dX1_copyLand_24 : decode cX1_copyLand 24 = .ok (.iconst 0, 1) := by decide +kernel
theorem dX1_copyLand_25 : decode cX1_copyLand 25 = .ok (.bipush 20, 2) := by decide +kernel
theorem dX1_copyLand_27 : decode cX1_copyLand 27 = .ok (.invokestatic 36, 3) := by decide +kernel
theorem dX1_copyLand_30 : decode cX1_copyLand 30 = .ok (.return_, 1) := by decide +kernel
theorem dX2_init_0 : decode cX2_init 0 = .ok (.aload_n 0, 1) := by decide +kernel
theorem dX2_init_1 : decode cX2_init 1 = .ok (.invokespecial 3, 3) := by decide +kernel
theorem dX2_init_4 : decode cX2_init 4 = .ok (.aload_n 0, 1) := by decide +kernel
theorem dX2_init_5 : decode cX2_init 5 = .ok (.new 9, 3) := by decide +kernel
theorem dX2_init_8 : decode cX2_init 8 = .ok (.dup, 1) := by decide +kernel
theorem dX2_init_9 : decode cX2_init 9 = .ok (.invokespecial 11, 3) := by decide +kernel
theorem dX2_init_12 : decode cX2_init 12 = .ok (.putfield 12, 3) := by decide +kernel
theorem dX2_init_15 : decode cX2_init 15 = .ok (.aload_n 0, 1) := by decide +kernel
theorem dX2_init_16 : decode cX2_init 16 = .ok (.iconst 0, 1) := by decide +kernel
theorem dX2_init_17 : decode cX2_init 17 = .ok (.putfield 18, 3) := by decide +kernel
theorem dX2_init_20 : decode cX2_init 20 = .ok (.aload_n 0, 1) := by decide +kernel
theorem dX2_init_21 : decode cX2_init 21 = .ok (.iconst 3, 1) := by decide +kernel
theorem dX2_init_22 : decode cX2_init 22 = .ok (.newarray .int, 2) := by decide +kernel
theorem dX2_init_24 : decode cX2_init 24 = .ok (.putfield 22, 3) := by decide +kernel
theorem dX2_init_27 : decode cX2_init 27 = .ok (.aload_n 0, 1) := by decide +kernel
theorem dX2_init_28 : decode cX2_init 28 = .ok (.iconst 0, 1) := by decide +kernel
theorem dX2_init_29 : decode cX2_init 29 = .ok (.putfield 26, 3) := by decide +kernel
theorem dX2_init_32 : decode cX2_init 32 = .ok (.aload_n 0, 1) := by decide +kernel
theorem dX2_init_33 : decode cX2_init 33 = .ok (.iconst (-1), 1) := by decide +kernel
theorem dX2_init_34 : decode cX2_init 34 = .ok (.putfield 29, 3) := by decide +kernel
theorem dX2_init_37 : decode cX2_init 37 = .ok (.aload_n 0, 1) := by decide +kernel
theorem dX2_init_38 : decode cX2_init 38 = .ok (.iconst (-1), 1) := by decide +kernel
theorem dX2_init_39 : decode cX2_init 39 = .ok (.putfield 32, 3) := by decide +kernel
theorem dX2_init_42 : decode cX2_init 42 = .ok (.return_, 1) := by decide +kernel
theorem dX2_faultOf_0 : decode cX2_faultOf 0 = .ok (.aload_n 0, 1) := by decide +kernel
theorem dX2_faultOf_1 : decode cX2_faultOf 1 = .ok (.aload_n 1, 1) := by decide +kernel
theorem dX2_faultOf_2 : decode cX2_faultOf 2 = .ok (.iload_n 2, 1) := by decide +kernel
theorem dX2_faultOf_3 : decode cX2_faultOf 3 = .ok (.iconst 0, 1) := by decide +kernel
theorem dX2_faultOf_4 : decode cX2_faultOf 4 = .ok (.iconst 0, 1) := by decide +kernel
theorem dX2_faultOf_5 : decode cX2_faultOf 5 = .ok (.iconst 0, 1) := by decide +kernel
theorem dX2_faultOf_6 : decode cX2_faultOf 6 = .ok (.invokevirtual 35, 3) := by decide +kernel
theorem dX2_faultOf_9 : decode cX2_faultOf 9 = .ok (.pop, 1) := by decide +kernel
theorem dX2_faultOf_10 : decode cX2_faultOf 10 = .ok (.aload_n 0, 1) := by decide +kernel
theorem dX2_faultOf_11 : decode cX2_faultOf 11 = .ok (.getfield 32, 3) := by decide +kernel
theorem dX2_faultOf_14 : decode cX2_faultOf 14 = .ok (.ireturn, 1) := by decide +kernel
theorem dX2_worth_0 : decode cX2_worth 0 = .ok (.aload_n 0, 1) := by decide +kernel
theorem dX2_worth_1 : decode cX2_worth 1 = .ok (.aload_n 1, 1) := by decide +kernel
theorem dX2_worth_2 : decode cX2_worth 2 = .ok (.putfield 12, 3) := by decide +kernel
theorem dX2_worth_5 : decode cX2_worth 5 = .ok (.aload_n 0, 1) := by decide +kernel
theorem dX2_worth_6 : decode cX2_worth 6 = .ok (.iload_n 2, 1) := by decide +kernel
theorem dX2_worth_7 : decode cX2_worth 7 = .ok (.putfield 18, 3) := by decide +kernel
theorem dX2_worth_10 : decode cX2_worth 10 = .ok (.aload_n 0, 1) := by decide +kernel
theorem dX2_worth_11 : decode cX2_worth 11 = .ok (.getfield 22, 3) := by decide +kernel
theorem dX2_worth_14 : decode cX2_worth 14 = .ok (.iconst 0, 1) := by decide +kernel
theorem dX2_worth_15 : decode cX2_worth 15 = .ok (.iload_n 3, 1) := by decide +kernel
theorem dX2_worth_16 : decode cX2_worth 16 = .ok (.iastore, 1) := by decide +kernel
theorem dX2_worth_17 : decode cX2_worth 17 = .ok (.aload_n 0, 1) := by decide +kernel
theorem dX2_worth_18 : decode cX2_worth 18 = .ok (.getfield 22, 3) := by decide +kernel
theorem dX2_worth_21 : decode cX2_worth 21 = .ok (.iconst 1, 1) := by decide +kernel
theorem dX2_worth_22 : decode cX2_worth 22 = .ok (.iload 4, 2) := by decide +kernel
theorem dX2_worth_24 : decode cX2_worth 24 = .ok (.iastore, 1) := by decide +kernel
theorem dX2_worth_25 : decode cX2_worth 25 = .ok (.aload_n 0, 1) := by decide +kernel
theorem dX2_worth_26 : decode cX2_worth 26 = .ok (.getfield 22, 3) := by decide +kernel
theorem dX2_worth_29 : decode cX2_worth 29 = .ok (.iconst 2, 1) := by decide +kernel
theorem dX2_worth_30 : decode cX2_worth 30 = .ok (.iload 5, 2) := by decide +kernel
theorem dX2_worth_32 : decode cX2_worth 32 = .ok (.iastore, 1) := by decide +kernel
theorem dX2_worth_33 : decode cX2_worth 33 = .ok (.aload_n 0, 1) := by decide +kernel
theorem dX2_worth_34 : decode cX2_worth 34 = .ok (.iconst (-1), 1) := by decide +kernel
theorem dX2_worth_35 : decode cX2_worth 35 = .ok (.putfield 26, 3) := by decide +kernel
theorem dX2_worth_38 : decode cX2_worth 38 = .ok (.aload_n 0, 1) := by decide +kernel
theorem dX2_worth_39 : decode cX2_worth 39 = .ok (.iconst (-1), 1) := by decide +kernel
theorem dX2_worth_40 : decode cX2_worth 40 = .ok (.putfield 32, 3) := by decide +kernel
theorem dX2_worth_43 : decode cX2_worth 43 = .ok (.aload_n 0, 1) := by decide +kernel
theorem dX2_worth_44 : decode cX2_worth 44 = .ok (.invokevirtual 39, 3) := by decide +kernel
theorem dX2_worth_47 : decode cX2_worth 47 = .ok (.aload_n 0, 1) := by decide +kernel
theorem dX2_worth_48 : decode cX2_worth 48 = .ok (.iconst 0, 1) := by decide +kernel
theorem dX2_worth_49 : decode cX2_worth 49 = .ok (.iconst 0, 1) := by decide +kernel
theorem dX2_worth_50 : decode cX2_worth 50 = .ok (.invokevirtual 42, 3) := by decide +kernel
theorem dX2_worth_53 : decode cX2_worth 53 = .ok (.istore 6, 2) := by decide +kernel
theorem dX2_worth_55 : decode cX2_worth 55 = .ok (.aload_n 0, 1) := by decide +kernel
theorem dX2_worth_56 : decode cX2_worth 56 = .ok (.getfield 26, 3) := by decide +kernel
theorem dX2_worth_59 : decode cX2_worth 59 = .ok (.aload_n 0, 1) := by decide +kernel
theorem dX2_worth_60 : decode cX2_worth 60 = .ok (.getfield 12, 3) := by decide +kernel
theorem dX2_worth_63 : decode cX2_worth 63 = .ok (.getfield 46, 3) := by decide +kernel
theorem dX2_worth_66 : decode cX2_worth 66 = .ok (.if_icmp .ge 7, 3) := by decide +kernel
theorem dX2_worth_69 : decode cX2_worth 69 = .ok (.aload_n 0, 1) := by decide +kernel
theorem dX2_worth_70 : decode cX2_worth 70 = .ok (.invokevirtual 49, 3) := by decide +kernel
theorem dX2_worth_73 : decode cX2_worth 73 = .ok (.iload 6, 2) := by decide +kernel
theorem dX2_worth_75 : decode cX2_worth 75 = .ok (.ireturn, 1) := by decide +kernel
theorem dX2_step_0 : decode cX2_step 0 = .ok (.aload_n 0, 1) := by decide +kernel
theorem dX2_step_1 : decode cX2_step 1 = .ok (.dup, 1) := by decide +kernel
theorem dX2_step_2 : decode cX2_step 2 = .ok (.getfield 26, 3) := by decide +kernel
theorem dX2_step_5 : decode cX2_step 5 = .ok (.iconst 1, 1) := by decide +kernel
theorem dX2_step_6 : decode cX2_step 6 = .ok (.iadd, 1) := by decide +kernel
theorem dX2_step_7 : decode cX2_step 7 = .ok (.putfield 26, 3) := by decide +kernel
theorem dX2_step_10 : decode cX2_step 10 = .ok (.aload_n 0, 1) := by decide +kernel
theorem dX2_step_11 : decode cX2_step 11 = .ok (.aload_n 0, 1) := by decide +kernel
theorem dX2_step_12 : decode cX2_step 12 = .ok (.getfield 26, 3) := by decide +kernel
theorem dX2_step_15 : decode cX2_step 15 = .ok (.aload_n 0, 1) := by decide +kernel
theorem dX2_step_16 : decode cX2_step 16 = .ok (.getfield 12, 3) := by decide +kernel
theorem dX2_step_19 : decode cX2_step 19 = .ok (.getfield 46, 3) := by decide +kernel
theorem dX2_step_22 : decode cX2_step 22 = .ok (.if_icmp .ge 22, 3) := by decide +kernel
theorem dX2_step_25 : decode cX2_step 25 = .ok (.aload_n 0, 1) := by decide +kernel
theorem dX2_step_26 : decode cX2_step 26 = .ok (.getfield 12, 3) := by decide +kernel
theorem dX2_step_29 : decode cX2_step 29 = .ok (.getfield 52, 3) := by decide +kernel
theorem dX2_step_32 : decode cX2_step 32 = .ok (.aload_n 0, 1) := by decide +kernel
theorem dX2_step_33 : decode cX2_step 33 = .ok (.getfield 26, 3) := by decide +kernel
theorem dX2_step_36 : decode cX2_step 36 = .ok (.baload, 1) := by decide +kernel
theorem dX2_step_37 : decode cX2_step 37 = .ok (.sipush 255, 3) := by decide +kernel
theorem dX2_step_40 : decode cX2_step 40 = .ok (.iand, 1) := by decide +kernel
theorem dX2_step_41 : decode cX2_step 41 = .ok (.goto 4, 3) := by decide +kernel
theorem dX2_step_44 : decode cX2_step 44 = .ok (.iconst (-1), 1) := by decide +kernel
theorem dX2_step_45 : decode cX2_step 45 = .ok (.putfield 29, 3) := by decide +kernel
theorem dX2_step_48 : decode cX2_step 48 = .ok (.return_, 1) := by decide +kernel
theorem dX2_refuse_0 : decode cX2_refuse 0 = .ok (.aload_n 0, 1) := by decide +kernel
theorem dX2_refuse_1 : decode cX2_refuse 1 = .ok (.aload_n 0, 1) := by decide +kernel
theorem dX2_refuse_2 : decode cX2_refuse 2 = .ok (.getfield 26, 3) := by decide +kernel
theorem dX2_refuse_5 : decode cX2_refuse 5 = .ok (.putfield 32, 3) := by decide +kernel
theorem dX2_refuse_8 : decode cX2_refuse 8 = .ok (.aload_n 0, 1) := by decide +kernel
theorem dX2_refuse_9 : decode cX2_refuse 9 = .ok (.iconst (-1), 1) := by decide +kernel
theorem dX2_refuse_10 : decode cX2_refuse 10 = .ok (.putfield 29, 3) := by decide +kernel
theorem dX2_refuse_13 : decode cX2_refuse 13 = .ok (.return_, 1) := by decide +kernel
theorem dX2_readJoined_0 : decode cX2_readJoined 0 = .ok (.iload_n 1, 1) := by decide +kernel
theorem dX2_readJoined_1 : decode cX2_readJoined 1 = .ok (.iconst 4, 1) := by decide +kernel
theorem dX2_readJoined_2 : decode cX2_readJoined 2 = .ok (.if_icmp .lt 7, 3) := by decide +kernel
theorem dX2_readJoined_5 : decode cX2_readJoined 5 = .ok (.iconst 1, 1) := by decide +kernel
theorem dX2_readJoined_6 : decode cX2_readJoined 6 = .ok (.goto 4, 3) := by decide +kernel
theorem dX2_readJoined_9 : decode cX2_readJoined 9 = .ok (.iconst 0, 1) := by decide +kernel
theorem dX2_readJoined_10 : decode cX2_readJoined 10 = .ok (.istore_n 3, 1) := by decide +kernel
theorem dX2_readJoined_11 : decode cX2_readJoined 11 = .ok (.iload_n 3, 1) := by decide +kernel
theorem dX2_readJoined_12 : decode cX2_readJoined 12 = .ok (.ifCond .eq 11, 3) := by decide +kernel
theorem dX2_readJoined_15 : decode cX2_readJoined 15 = .ok (.aload_n 0, 1) := by decide +kernel
theorem dX2_readJoined_16 : decode cX2_readJoined 16 = .ok (.iload_n 2, 1) := by decide +kernel
theorem dX2_readJoined_17 : decode cX2_readJoined 17 = .ok (.invokevirtual 56, 3) := by decide +kernel
theorem dX2_readJoined_20 : decode cX2_readJoined 20 = .ok (.goto 11, 3) := by decide +kernel
theorem dX2_readJoined_23 : decode cX2_readJoined 23 = .ok (.aload_n 0, 1) := by decide +kernel
theorem dX2_readJoined_24 : decode cX2_readJoined 24 = .ok (.iload_n 1, 1) := by decide +kernel
theorem dX2_readJoined_25 : decode cX2_readJoined 25 = .ok (.iconst 1, 1) := by decide +kernel
theorem dX2_readJoined_26 : decode cX2_readJoined 26 = .ok (.iadd, 1) := by decide +kernel
theorem dX2_readJoined_27 : decode cX2_readJoined 27 = .ok (.iload_n 2, 1) := by decide +kernel
theorem dX2_readJoined_28 : decode cX2_readJoined 28 = .ok (.invokevirtual 42, 3) := by decide +kernel
theorem dX2_readJoined_31 : decode cX2_readJoined 31 = .ok (.istore 4, 2) := by decide +kernel
theorem dX2_readJoined_33 : decode cX2_readJoined 33 = .ok (.iload_n 1, 1) := by decide +kernel
theorem dX2_readJoined_34 : decode cX2_readJoined 34 = .ok (.iconst 2, 1) := by decide +kernel
theorem dX2_readJoined_35 : decode cX2_readJoined 35 = .ok (.if_icmp .ne 7, 3) := by decide +kernel
theorem dX2_readJoined_38 : decode cX2_readJoined 38 = .ok (.iconst 1, 1) := by decide +kernel
theorem dX2_readJoined_39 : decode cX2_readJoined 39 = .ok (.goto 5, 3) := by decide +kernel
theorem dX2_readJoined_42 : decode cX2_readJoined 42 = .ok (.bipush 50, 2) := by decide +kernel
theorem dX2_readJoined_44 : decode cX2_readJoined 44 = .ok (.istore 5, 2) := by decide +kernel
theorem dX2_readJoined_46 : decode cX2_readJoined 46 = .ok (.iconst 0, 1) := by decide +kernel
theorem dX2_readJoined_47 : decode cX2_readJoined 47 = .ok (.istore 6, 2) := by decide +kernel
theorem dX2_readJoined_49 : decode cX2_readJoined 49 = .ok (.iload 6, 2) := by decide +kernel
theorem dX2_readJoined_51 : decode cX2_readJoined 51 = .ok (.iload 5, 2) := by decide +kernel
theorem dX2_readJoined_53 : decode cX2_readJoined 53 = .ok (.if_icmp .ge 63, 3) := by decide +kernel
theorem dX2_readJoined_56 : decode cX2_readJoined 56 = .ok (.aload_n 0, 1) := by decide +kernel
theorem dX2_readJoined_57 : decode cX2_readJoined 57 = .ok (.getfield 29, 3) := by decide +kernel
theorem dX2_readJoined_60 : decode cX2_readJoined 60 = .ok (.invokestatic 60, 3) := by decide +kernel
theorem dX2_readJoined_63 : decode cX2_readJoined 63 = .ok (.iload_n 1, 1) := by decide +kernel
theorem dX2_readJoined_64 : decode cX2_readJoined 64 = .ok (.if_icmp .ne 52, 3) := by decide +kernel
theorem dX2_readJoined_67 : decode cX2_readJoined 67 = .ok (.aload_n 0, 1) := by decide +kernel
theorem dX2_readJoined_68 : decode cX2_readJoined 68 = .ok (.getfield 29, 3) := by decide +kernel
theorem dX2_readJoined_71 : decode cX2_readJoined 71 = .ok (.istore 7, 2) := by decide +kernel
theorem dX2_readJoined_73 : decode cX2_readJoined 73 = .ok (.aload_n 0, 1) := by decide +kernel
theorem dX2_readJoined_74 : decode cX2_readJoined 74 = .ok (.invokevirtual 39, 3) := by decide +kernel
theorem dX2_readJoined_77 : decode cX2_readJoined 77 = .ok (.iload_n 3, 1) := by decide +kernel
theorem dX2_readJoined_78 : decode cX2_readJoined 78 = .ok (.ifCond .eq 11, 3) := by decide +kernel
theorem dX2_readJoined_81 : decode cX2_readJoined 81 = .ok (.aload_n 0, 1) := by decide +kernel
theorem dX2_readJoined_82 : decode cX2_readJoined 82 = .ok (.iload_n 2, 1) := by decide +kernel
theorem dX2_readJoined_83 : decode cX2_readJoined 83 = .ok (.invokevirtual 56, 3) := by decide +kernel
theorem dX2_readJoined_86 : decode cX2_readJoined 86 = .ok (.goto 11, 3) := by decide +kernel
theorem dX2_readJoined_89 : decode cX2_readJoined 89 = .ok (.aload_n 0, 1) := by decide +kernel
theorem dX2_readJoined_90 : decode cX2_readJoined 90 = .ok (.iload_n 1, 1) := by decide +kernel
theorem dX2_readJoined_91 : decode cX2_readJoined 91 = .ok (.iconst 1, 1) := by decide +kernel
theorem dX2_readJoined_92 : decode cX2_readJoined 92 = .ok (.iadd, 1) := by decide +kernel
theorem dX2_readJoined_93 : decode cX2_readJoined 93 = .ok (.iload_n 2, 1) := by decide +kernel
theorem dX2_readJoined_94 : decode cX2_readJoined 94 = .ok (.invokevirtual 42, 3) := by decide +kernel
theorem dX2_readJoined_97 : decode cX2_readJoined 97 = .ok (.istore 8, 2) := by decide +kernel
theorem dX2_readJoined_99 : decode cX2_readJoined 99 = .ok (.iload 4, 2) := by decide +kernel
theorem dX2_readJoined_101 : decode cX2_readJoined 101 = .ok (.iload 7, 2) := by decide +kernel
theorem dX2_readJoined_103 : decode cX2_readJoined 103 = .ok (.iload 8, 2) := by decide +kernel
theorem dX2_readJoined_105 : decode cX2_readJoined 105 = .ok (.invokestatic 63, 3) := by decide +kernel
theorem dX2_readJoined_108 : decode cX2_readJoined 108 = .ok (.istore 4, 2) := by decide +kernel
theorem dX2_readJoined_110 : decode cX2_readJoined 110 = .ok (.iinc 6 1, 3) := by decide +kernel
theorem dX2_readJoined_113 : decode cX2_readJoined 113 = .ok (.goto (-64), 3) := by decide +kernel
theorem dX2_readJoined_116 : decode cX2_readJoined 116 = .ok (.iload 4, 2) := by decide +kernel
theorem dX2_readJoined_118 : decode cX2_readJoined 118 = .ok (.ireturn, 1) := by decide +kernel
theorem dX2_readSingle_0 : decode cX2_readSingle 0 = .ok (.iconst 0, 1) := by decide +kernel
theorem dX2_readSingle_1 : decode cX2_readSingle 1 = .ok (.istore_n 2, 1) := by decide +kernel
theorem dX2_readSingle_2 : decode cX2_readSingle 2 = .ok (.iconst 0, 1) := by decide +kernel
theorem dX2_readSingle_3 : decode cX2_readSingle 3 = .ok (.istore_n 3, 1) := by decide +kernel
theorem dX2_readSingle_4 : decode cX2_readSingle 4 = .ok (.iload_n 3, 1) := by decide +kernel
theorem dX2_readSingle_5 : decode cX2_readSingle 5 = .ok (.iconst 4, 1) := by decide +kernel
theorem dX2_readSingle_6 : decode cX2_readSingle 6 = .ok (.if_icmp .ge 44, 3) := by decide +kernel
theorem dX2_readSingle_9 : decode cX2_readSingle 9 = .ok (.aload_n 0, 1) := by decide +kernel
theorem dX2_readSingle_10 : decode cX2_readSingle 10 = .ok (.getfield 29, 3) := by decide +kernel
theorem dX2_readSingle_13 : decode cX2_readSingle 13 = .ok (.bipush 48, 2) := by decide +kernel
theorem dX2_readSingle_15 : decode cX2_readSingle 15 = .ok (.if_icmp .lt 35, 3) := by decide +kernel
theorem dX2_readSingle_18 : decode cX2_readSingle 18 = .ok (.aload_n 0, 1) := by decide +kernel
theorem dX2_readSingle_19 : decode cX2_readSingle 19 = .ok (.getfield 29, 3) := by decide +kernel
theorem dX2_readSingle_22 : decode cX2_readSingle 22 = .ok (.bipush 57, 2) := by decide +kernel
theorem dX2_readSingle_24 : decode cX2_readSingle 24 = .ok (.if_icmp .gt 26, 3) := by decide +kernel
theorem dX2_readSingle_27 : decode cX2_readSingle 27 = .ok (.iload_n 2, 1) := by decide +kernel
theorem dX2_readSingle_28 : decode cX2_readSingle 28 = .ok (.bipush 10, 2) := by decide +kernel
theorem dX2_readSingle_30 : decode cX2_readSingle 30 = .ok (.imul, 1) := by decide +kernel
theorem dX2_readSingle_31 : decode cX2_readSingle 31 = .ok (.aload_n 0, 1) := by decide +kernel
theorem dX2_readSingle_32 : decode cX2_readSingle 32 = .ok (.getfield 29, 3) := by decide +kernel
theorem dX2_readSingle_35 : decode cX2_readSingle 35 = .ok (.iadd, 1) := by decide +kernel
theorem dX2_readSingle_36 : decode cX2_readSingle 36 = .ok (.bipush 48, 2) := by decide +kernel
theorem dX2_readSingle_38 : decode cX2_readSingle 38 = .ok (.isub, 1) := by decide +kernel
theorem dX2_readSingle_39 : decode cX2_readSingle 39 = .ok (.istore_n 2, 1) := by decide +kernel
theorem dX2_readSingle_40 : decode cX2_readSingle 40 = .ok (.iinc 3 1, 3) := by decide +kernel
theorem dX2_readSingle_43 : decode cX2_readSingle 43 = .ok (.aload_n 0, 1) := by decide +kernel
theorem dX2_readSingle_44 : decode cX2_readSingle 44 = .ok (.invokevirtual 39, 3) := by decide +kernel
theorem dX2_readSingle_47 : decode cX2_readSingle 47 = .ok (.goto (-43), 3) := by decide +kernel
theorem dX2_readSingle_50 : decode cX2_readSingle 50 = .ok (.iload_n 3, 1) := by decide +kernel
theorem dX2_readSingle_51 : decode cX2_readSingle 51 = .ok (.ifCond .le 5, 3) := by decide +kernel
theorem dX2_readSingle_54 : decode cX2_readSingle 54 = .ok (.iload_n 2, 1) := by decide +kernel
theorem dX2_readSingle_55 : decode cX2_readSingle 55 = .ok (.ireturn, 1) := by decide +kernel
theorem dX2_readSingle_56 : decode cX2_readSingle 56 = .ok (.iconst 0, 1) := by decide +kernel
theorem dX2_readSingle_57 : decode cX2_readSingle 57 = .ok (.istore 4, 2) := by decide +kernel
theorem dX2_readSingle_59 : decode cX2_readSingle 59 = .ok (.iload 4, 2) := by decide +kernel
theorem dX2_readSingle_61 : decode cX2_readSingle 61 = .ok (.iconst 3, 1) := by decide +kernel
theorem dX2_readSingle_62 : decode cX2_readSingle 62 = .ok (.if_icmp .ge 41, 3) := by decide +kernel
theorem dX2_readSingle_65 : decode cX2_readSingle 65 = .ok (.aload_n 0, 1) := by decide +kernel
theorem dX2_readSingle_66 : decode cX2_readSingle 66 = .ok (.getfield 29, 3) := by decide +kernel
theorem dX2_readSingle_69 : decode cX2_readSingle 69 = .ok (.getstatic 67, 3) := by decide +kernel
theorem dX2_readSingle_72 : decode cX2_readSingle 72 = .ok (.aload_n 0, 1) := by decide +kernel
theorem dX2_readSingle_73 : decode cX2_readSingle 73 = .ok (.getfield 18, 3) := by decide +kernel
theorem dX2_readSingle_76 : decode cX2_readSingle 76 = .ok (.iconst 3, 1) := by decide +kernel
theorem dX2_readSingle_77 : decode cX2_readSingle 77 = .ok (.imul, 1) := by decide +kernel
theorem dX2_readSingle_78 : decode cX2_readSingle 78 = .ok (.iload 4, 2) := by decide +kernel
theorem dX2_readSingle_80 : decode cX2_readSingle 80 = .ok (.iadd, 1) := by decide +kernel
theorem dX2_readSingle_81 : decode cX2_readSingle 81 = .ok (.caload, 1) := by decide +kernel
theorem dX2_readSingle_82 : decode cX2_readSingle 82 = .ok (.if_icmp .ne 15, 3) := by decide +kernel
theorem dX2_readSingle_85 : decode cX2_readSingle 85 = .ok (.aload_n 0, 1) := by decide +kernel
theorem dX2_readSingle_86 : decode cX2_readSingle 86 = .ok (.invokevirtual 39, 3) := by decide +kernel
theorem dX2_readSingle_89 : decode cX2_readSingle 89 = .ok (.aload_n 0, 1) := by decide +kernel
theorem dX2_readSingle_90 : decode cX2_readSingle 90 = .ok (.getfield 22, 3) := by decide +kernel
theorem dX2_readSingle_93 : decode cX2_readSingle 93 = .ok (.iload 4, 2) := by decide +kernel
theorem dX2_readSingle_95 : decode cX2_readSingle 95 = .ok (.iaload, 1) := by decide +kernel
theorem dX2_readSingle_96 : decode cX2_readSingle 96 = .ok (.ireturn, 1) := by decide +kernel
theorem dX2_readSingle_97 : decode cX2_readSingle 97 = .ok (.iinc 4 1, 3) := by decide +kernel
theorem dX2_readSingle_100 : decode cX2_readSingle 100 = .ok (.goto (-41), 3) := by decide +kernel
theorem dX2_readSingle_103 : decode cX2_readSingle 103 = .ok (.iload_n 1, 1) := by decide +kernel
theorem dX2_readSingle_104 : decode cX2_readSingle 104 = .ok (.iconst 5, 1) := by decide +kernel
theorem dX2_readSingle_105 : decode cX2_readSingle 105 = .ok (.if_icmp .ge 32, 3) := by decide +kernel
theorem dX2_readSingle_108 : decode cX2_readSingle 108 = .ok (.aload_n 0, 1) := by decide +kernel
theorem dX2_readSingle_109 : decode cX2_readSingle 109 = .ok (.getfield 29, 3) := by decide +kernel
theorem dX2_readSingle_112 : decode cX2_readSingle 112 = .ok (.bipush 33, 2) := by decide +kernel
theorem dX2_readSingle_114 : decode cX2_readSingle 114 = .ok (.if_icmp .ne 23, 3) := by decide +kernel
theorem dX2_readSingle_117 : decode cX2_readSingle 117 = .ok (.aload_n 0, 1) := by decide +kernel
theorem dX2_readSingle_118 : decode cX2_readSingle 118 = .ok (.invokevirtual 39, 3) := by decide +kernel
theorem dX2_readSingle_121 : decode cX2_readSingle 121 = .ok (.aload_n 0, 1) := by decide +kernel
theorem dX2_readSingle_122 : decode cX2_readSingle 122 = .ok (.iload_n 1, 1) := by decide +kernel
theorem dX2_readSingle_123 : decode cX2_readSingle 123 = .ok (.iconst 1, 1) := by decide +kernel
theorem dX2_readSingle_124 : decode cX2_readSingle 124 = .ok (.iadd, 1) := by decide +kernel
theorem dX2_readSingle_125 : decode cX2_readSingle 125 = .ok (.invokevirtual 56, 3) := by decide +kernel
theorem dX2_readSingle_128 : decode cX2_readSingle 128 = .ok (.ifCond .ne 7, 3) := by decide +kernel
theorem dX2_readSingle_131 : decode cX2_readSingle 131 = .ok (.iconst 1, 1) := by decide +kernel
theorem dX2_readSingle_132 : decode cX2_readSingle 132 = .ok (.goto 4, 3) := by decide +kernel
theorem dX2_readSingle_135 : decode cX2_readSingle 135 = .ok (.iconst 0, 1) := by decide +kernel
theorem dX2_readSingle_136 : decode cX2_readSingle 136 = .ok (.ireturn, 1) := by decide +kernel
theorem dX2_readSingle_137 : decode cX2_readSingle 137 = .ok (.iload_n 1, 1) := by decide +kernel
theorem dX2_readSingle_138 : decode cX2_readSingle 138 = .ok (.iconst 5, 1) := by decide +kernel
theorem dX2_readSingle_139 : decode cX2_readSingle 139 = .ok (.if_icmp .ge 40, 3) := by decide +kernel
theorem dX2_readSingle_142 : decode cX2_readSingle 142 = .ok (.aload_n 0, 1) := by decide +kernel
theorem dX2_readSingle_143 : decode cX2_readSingle 143 = .ok (.getfield 29, 3) := by decide +kernel
theorem dX2_readSingle_146 : decode cX2_readSingle 146 = .ok (.bipush 40, 2) := by decide +kernel
theorem dX2_readSingle_148 : decode cX2_readSingle 148 = .ok (.if_icmp .ne 31, 3) := by decide +kernel
theorem dX2_readSingle_151 : decode cX2_readSingle 151 = .ok (.aload_n 0, 1) := by decide +kernel
theorem dX2_readSingle_152 : decode cX2_readSingle 152 = .ok (.invokevirtual 39, 3) := by decide +kernel
theorem dX2_readSingle_155 : decode cX2_readSingle 155 = .ok (.aload_n 0, 1) := by decide +kernel
theorem dX2_readSingle_156 : decode cX2_readSingle 156 = .ok (.iconst 0, 1) := by decide +kernel
theorem dX2_readSingle_157 : decode cX2_readSingle 157 = .ok (.iload_n 1, 1) := by decide +kernel
theorem dX2_readSingle_158 : decode cX2_readSingle 158 = .ok (.iconst 1, 1) := by decide +kernel
theorem dX2_readSingle_159 : decode cX2_readSingle 159 = .ok (.iadd, 1) := by decide +kernel
theorem dX2_readSingle_160 : decode cX2_readSingle 160 = .ok (.invokevirtual 42, 3) := by decide +kernel
theorem dX2_readSingle_163 : decode cX2_readSingle 163 = .ok (.istore_n 2, 1) := by decide +kernel
theorem dX2_readSingle_164 : decode cX2_readSingle 164 = .ok (.aload_n 0, 1) := by decide +kernel
theorem dX2_readSingle_165 : decode cX2_readSingle 165 = .ok (.getfield 29, 3) := by decide +kernel
theorem dX2_readSingle_168 : decode cX2_readSingle 168 = .ok (.bipush 41, 2) := by decide +kernel
theorem dX2_readSingle_170 : decode cX2_readSingle 170 = .ok (.if_icmp .ne 9, 3) := by decide +kernel
theorem dX2_readSingle_173 : decode cX2_readSingle 173 = .ok (.aload_n 0, 1) := by decide +kernel
theorem dX2_readSingle_174 : decode cX2_readSingle 174 = .ok (.invokevirtual 39, 3) := by decide +kernel
theorem dX2_readSingle_177 : decode cX2_readSingle 177 = .ok (.iload_n 2, 1) := by decide +kernel
theorem dX2_readSingle_178 : decode cX2_readSingle 178 = .ok (.ireturn, 1) := by decide +kernel
theorem dX2_readSingle_179 : decode cX2_readSingle 179 = .ok (.aload_n 0, 1) := by decide +kernel
theorem dX2_readSingle_180 : decode cX2_readSingle 180 = .ok (.invokevirtual 49, 3) := by decide +kernel
theorem dX2_readSingle_183 : decode cX2_readSingle 183 = .ok (.iconst 0, 1) := by decide +kernel
theorem dX2_readSingle_184 : decode cX2_readSingle 184 = .ok (.ireturn, 1) := by decide +kernel
theorem dX2_levelOf_0 : decode cX2_levelOf 0 = .ok (.iload_n 0, 1) := by decide +kernel
theorem dX2_levelOf_1 : decode cX2_levelOf 1 = .ok (.lookupswitch 101 #[(37, 99), (38, 93), (42, 99), (43, 97), (45, 97), (47, 99), (60, 95), (61, 95), (62, 95), (124, 91)], 91) := by decide +kernel
theorem dX2_levelOf_92 : decode cX2_levelOf 92 = .ok (.iconst 0, 1) := by decide +kernel
theorem dX2_levelOf_93 : decode cX2_levelOf 93 = .ok (.ireturn, 1) := by decide +kernel
theorem dX2_levelOf_94 : decode cX2_levelOf 94 = .ok (.iconst 1, 1) := by decide +kernel
theorem dX2_levelOf_95 : decode cX2_levelOf 95 = .ok (.ireturn, 1) := by decide +kernel
theorem dX2_levelOf_96 : decode cX2_levelOf 96 = .ok (.iconst 2, 1) := by decide +kernel
theorem dX2_levelOf_97 : decode cX2_levelOf 97 = .ok (.ireturn, 1) := by decide +kernel
theorem dX2_levelOf_98 : decode cX2_levelOf 98 = .ok (.iconst 3, 1) := by decide +kernel
theorem dX2_levelOf_99 : decode cX2_levelOf 99 = .ok (.ireturn, 1) := by decide +kernel
theorem dX2_levelOf_100 : decode cX2_levelOf 100 = .ok (.iconst 4, 1) := by decide +kernel
theorem dX2_levelOf_101 : decode cX2_levelOf 101 = .ok (.ireturn, 1) := by decide +kernel
theorem dX2_levelOf_102 : decode cX2_levelOf 102 = .ok (.iconst (-1), 1) := by decide +kernel
theorem dX2_levelOf_103 : decode cX2_levelOf 103 = .ok (.ireturn, 1) := by decide +kernel
theorem dX2_joined_0 : decode cX2_joined 0 = .ok (.iload_n 1, 1) := by decide +kernel
theorem dX2_joined_1 : decode cX2_joined 1 = .ok (.lookupswitch 162 #[(38, 97), (42, 152), (43, 144), (45, 148), (47, 156), (60, 111), (61, 122), (62, 133), (124, 83)], 83) := by decide +kernel
theorem dX2_joined_84 : decode cX2_joined 84 = .ok (.iload_n 0, 1) := by decide +kernel
theorem dX2_joined_85 : decode cX2_joined 85 = .ok (.ifCond .ne 7, 3) := by decide +kernel
theorem dX2_joined_88 : decode cX2_joined 88 = .ok (.iload_n 2, 1) := by decide +kernel
theorem dX2_joined_89 : decode cX2_joined 89 = .ok (.ifCond .eq 7, 3) := by decide +kernel
theorem dX2_joined_92 : decode cX2_joined 92 = .ok (.iconst 1, 1) := by decide +kernel
theorem dX2_joined_93 : decode cX2_joined 93 = .ok (.goto 4, 3) := by decide +kernel
theorem dX2_joined_96 : decode cX2_joined 96 = .ok (.iconst 0, 1) := by decide +kernel
theorem dX2_joined_97 : decode cX2_joined 97 = .ok (.ireturn, 1) := by decide +kernel
theorem dX2_joined_98 : decode cX2_joined 98 = .ok (.iload_n 0, 1) := by decide +kernel
theorem dX2_joined_99 : decode cX2_joined 99 = .ok (.ifCond .eq 11, 3) := by decide +kernel
theorem dX2_joined_102 : decode cX2_joined 102 = .ok (.iload_n 2, 1) := by decide +kernel
theorem dX2_joined_103 : decode cX2_joined 103 = .ok (.ifCond .eq 7, 3) := by decide +kernel
theorem dX2_joined_106 : decode cX2_joined 106 = .ok (.iconst 1, 1) := by decide +kernel
theorem dX2_joined_107 : decode cX2_joined 107 = .ok (.goto 4, 3) := by decide +kernel
theorem dX2_joined_110 : decode cX2_joined 110 = .ok (.iconst 0, 1) := by decide +kernel
theorem dX2_joined_111 : decode cX2_joined 111 = .ok (.ireturn, 1) := by decide +kernel
theorem dX2_joined_112 : decode cX2_joined 112 = .ok (.iload_n 0, 1) := by decide +kernel
theorem dX2_joined_113 : decode cX2_joined 113 = .ok (.iload_n 2, 1) := by decide +kernel
theorem dX2_joined_114 : decode cX2_joined 114 = .ok (.if_icmp .ge 7, 3) := by decide +kernel
theorem dX2_joined_117 : decode cX2_joined 117 = .ok (.iconst 1, 1) := by decide +kernel
theorem dX2_joined_118 : decode cX2_joined 118 = .ok (.goto 4, 3) := by decide +kernel
theorem dX2_joined_121 : decode cX2_joined 121 = .ok (.iconst 0, 1) := by decide +kernel
theorem dX2_joined_122 : decode cX2_joined 122 = .ok (.ireturn, 1) := by decide +kernel
theorem dX2_joined_123 : decode cX2_joined 123 = .ok (.iload_n 0, 1) := by decide +kernel
theorem dX2_joined_124 : decode cX2_joined 124 = .ok (.iload_n 2, 1) := by decide +kernel
theorem dX2_joined_125 : decode cX2_joined 125 = .ok (.if_icmp .ne 7, 3) := by decide +kernel
theorem dX2_joined_128 : decode cX2_joined 128 = .ok (.iconst 1, 1) := by decide +kernel
theorem dX2_joined_129 : decode cX2_joined 129 = .ok (.goto 4, 3) := by decide +kernel
theorem dX2_joined_132 : decode cX2_joined 132 = .ok (.iconst 0, 1) := by decide +kernel
theorem dX2_joined_133 : decode cX2_joined 133 = .ok (.ireturn, 1) := by decide +kernel
theorem dX2_joined_134 : decode cX2_joined 134 = .ok (.iload_n 0, 1) := by decide +kernel
theorem dX2_joined_135 : decode cX2_joined 135 = .ok (.iload_n 2, 1) := by decide +kernel
theorem dX2_joined_136 : decode cX2_joined 136 = .ok (.if_icmp .le 7, 3) := by decide +kernel
theorem dX2_joined_139 : decode cX2_joined 139 = .ok (.iconst 1, 1) := by decide +kernel
theorem dX2_joined_140 : decode cX2_joined 140 = .ok (.goto 4, 3) := by decide +kernel
theorem dX2_joined_143 : decode cX2_joined 143 = .ok (.iconst 0, 1) := by decide +kernel
theorem dX2_joined_144 : decode cX2_joined 144 = .ok (.ireturn, 1) := by decide +kernel
theorem dX2_joined_145 : decode cX2_joined 145 = .ok (.iload_n 0, 1) := by decide +kernel
theorem dX2_joined_146 : decode cX2_joined 146 = .ok (.iload_n 2, 1) := by decide +kernel
theorem dX2_joined_147 : decode cX2_joined 147 = .ok (.iadd, 1) := by decide +kernel
theorem dX2_joined_148 : decode cX2_joined 148 = .ok (.ireturn, 1) := by decide +kernel
theorem dX2_joined_149 : decode cX2_joined 149 = .ok (.iload_n 0, 1) := by decide +kernel
theorem dX2_joined_150 : decode cX2_joined 150 = .ok (.iload_n 2, 1) := by decide +kernel
theorem dX2_joined_151 : decode cX2_joined 151 = .ok (.isub, 1) := by decide +kernel
theorem dX2_joined_152 : decode cX2_joined 152 = .ok (.ireturn, 1) := by decide +kernel
theorem dX2_joined_153 : decode cX2_joined 153 = .ok (.iload_n 0, 1) := by decide +kernel
theorem dX2_joined_154 : decode cX2_joined 154 = .ok (.iload_n 2, 1) := by decide +kernel
theorem dX2_joined_155 : decode cX2_joined 155 = .ok (.imul, 1) := by decide +kernel
theorem dX2_joined_156 : decode cX2_joined 156 = .ok (.ireturn, 1) := by decide +kernel
theorem dX2_joined_157 : decode cX2_joined 157 = .ok (.iload_n 0, 1) := by decide +kernel
theorem dX2_joined_158 : decode cX2_joined 158 = .ok (.iload_n 2, 1) := by decide +kernel
theorem dX2_joined_159 : decode cX2_joined 159 = .ok (.invokestatic 71, 3) := by decide +kernel
theorem dX2_joined_162 : decode cX2_joined 162 = .ok (.ireturn, 1) := by decide +kernel
theorem dX2_joined_163 : decode cX2_joined 163 = .ok (.iload_n 2, 1) := by decide +kernel
theorem dX2_joined_164 : decode cX2_joined 164 = .ok (.ifCond .ne 7, 3) := by decide +kernel
theorem dX2_joined_167 : decode cX2_joined 167 = .ok (.iconst 0, 1) := by decide +kernel
theorem dX2_joined_168 : decode cX2_joined 168 = .ok (.goto 6, 3) := by decide +kernel
theorem dX2_joined_171 : decode cX2_joined 171 = .ok (.iload_n 0, 1) := by decide +kernel
theorem dX2_joined_172 : decode cX2_joined 172 = .ok (.iload_n 2, 1) := by decide +kernel
theorem dX2_joined_173 : decode cX2_joined 173 = .ok (.irem, 1) := by decide +kernel
theorem dX2_joined_174 : decode cX2_joined 174 = .ok (.ireturn, 1) := by decide +kernel
theorem dX3_init_0 : decode cX3_init 0 = .ok (.aload_n 0, 1) := by decide +kernel
theorem dX3_init_1 : decode cX3_init 1 = .ok (.invokespecial 3, 3) := by decide +kernel
theorem dX3_init_4 : decode cX3_init 4 = .ok (.aload_n 0, 1) := by decide +kernel
theorem dX3_init_5 : decode cX3_init 5 = .ok (.iconst 0, 1) := by decide +kernel
theorem dX3_init_6 : decode cX3_init 6 = .ok (.putfield 9, 3) := by decide +kernel
theorem dX3_init_9 : decode cX3_init 9 = .ok (.aload_n 0, 1) := by decide +kernel
theorem dX3_init_10 : decode cX3_init 10 = .ok (.iconst 0, 1) := by decide +kernel
theorem dX3_init_11 : decode cX3_init 11 = .ok (.putfield 15, 3) := by decide +kernel
theorem dX3_init_14 : decode cX3_init 14 = .ok (.aload_n 0, 1) := by decide +kernel
theorem dX3_init_15 : decode cX3_init 15 = .ok (.bipush 40, 2) := by decide +kernel
theorem dX3_init_17 : decode cX3_init 17 = .ok (.newarray .int, 2) := by decide +kernel
theorem dX3_init_19 : decode cX3_init 19 = .ok (.putfield 18, 3) := by decide +kernel
theorem dX3_init_22 : decode cX3_init 22 = .ok (.return_, 1) := by decide +kernel
theorem dX3_startWith_0 : decode cX3_startWith 0 = .ok (.aload_n 0, 1) := by decide +kernel
theorem dX3_startWith_1 : decode cX3_startWith 1 = .ok (.iload_n 1, 1) := by decide +kernel
theorem dX3_startWith_2 : decode cX3_startWith 2 = .ok (.putfield 9, 3) := by decide +kernel
theorem dX3_startWith_5 : decode cX3_startWith 5 = .ok (.aload_n 0, 1) := by decide +kernel
theorem dX3_startWith_6 : decode cX3_startWith 6 = .ok (.iload_n 1, 1) := by decide +kernel
theorem dX3_startWith_7 : decode cX3_startWith 7 = .ok (.ifCond .ne 7, 3) := by decide +kernel
theorem dX3_startWith_10 : decode cX3_startWith 10 = .ok (.iconst 0, 1) := by decide +kernel
theorem dX3_startWith_11 : decode cX3_startWith 11 = .ok (.goto 4, 3) := by decide +kernel
theorem dX3_startWith_14 : decode cX3_startWith 14 = .ok (.iload_n 2, 1) := by decide +kernel
theorem dX3_startWith_15 : decode cX3_startWith 15 = .ok (.putfield 15, 3) := by decide +kernel
theorem dX3_startWith_18 : decode cX3_startWith 18 = .ok (.iconst 0, 1) := by decide +kernel
theorem dX3_startWith_19 : decode cX3_startWith 19 = .ok (.istore_n 3, 1) := by decide +kernel
theorem dX3_startWith_20 : decode cX3_startWith 20 = .ok (.iload_n 3, 1) := by decide +kernel
theorem dX3_startWith_21 : decode cX3_startWith 21 = .ok (.bipush 40, 2) := by decide +kernel
theorem dX3_startWith_23 : decode cX3_startWith 23 = .ok (.if_icmp .ge 16, 3) := by decide +kernel
theorem dX3_startWith_26 : decode cX3_startWith 26 = .ok (.aload_n 0, 1) := by decide +kernel
theorem dX3_startWith_27 : decode cX3_startWith 27 = .ok (.getfield 18, 3) := by decide +kernel
theorem dX3_startWith_30 : decode cX3_startWith 30 = .ok (.iload_n 3, 1) := by decide +kernel
theorem dX3_startWith_31 : decode cX3_startWith 31 = .ok (.iconst 0, 1) := by decide +kernel
theorem dX3_startWith_32 : decode cX3_startWith 32 = .ok (.iastore, 1) := by decide +kernel
theorem dX3_startWith_33 : decode cX3_startWith 33 = .ok (.iinc 3 1, 3) := by decide +kernel
theorem dX3_startWith_36 : decode cX3_startWith 36 = .ok (.goto (-16), 3) := by decide +kernel
theorem dX3_startWith_39 : decode cX3_startWith 39 = .ok (.return_, 1) := by decide +kernel
theorem dX3_cut_0 : decode cX3_cut 0 = .ok (.aload_n 0, 1) := by decide +kernel
theorem dX3_cut_1 : decode cX3_cut 1 = .ok (.getfield 9, 3) := by decide +kernel
theorem dX3_cut_4 : decode cX3_cut 4 = .ok (.bipush 8, 2) := by decide +kernel
theorem dX3_cut_6 : decode cX3_cut 6 = .ok (.if_icmp .ne 11, 3) := by decide +kernel
theorem dX3_cut_9 : decode cX3_cut 9 = .ok (.iload_n 1, 1) := by decide +kernel
theorem dX3_cut_10 : decode cX3_cut 10 = .ok (.sipush 255, 3) := by decide +kernel
theorem dX3_cut_13 : decode cX3_cut 13 = .ok (.iand, 1) := by decide +kernel
theorem dX3_cut_14 : decode cX3_cut 14 = .ok (.goto 20, 3) := by decide +kernel
theorem dX3_cut_17 : decode cX3_cut 17 = .ok (.aload_n 0, 1) := by decide +kernel
theorem dX3_cut_18 : decode cX3_cut 18 = .ok (.getfield 9, 3) := by decide +kernel
theorem dX3_cut_21 : decode cX3_cut 21 = .ok (.bipush 16, 2) := by decide +kernel
theorem dX3_cut_23 : decode cX3_cut 23 = .ok (.if_icmp .ne 10, 3) := by decide +kernel
theorem dX3_cut_26 : decode cX3_cut 26 = .ok (.iload_n 1, 1) := by decide +kernel
theorem dX3_cut_27 : decode cX3_cut 27 = .ok (.ldc 22, 2) := by decide +kernel
theorem dX3_cut_29 : decode cX3_cut 29 = .ok (.iand, 1) := by decide +kernel
theorem dX3_cut_30 : decode cX3_cut 30 = .ok (.goto 4, 3) := by decide +kernel
theorem dX3_cut_33 : decode cX3_cut 33 = .ok (.iload_n 1, 1) := by decide +kernel
theorem dX3_cut_34 : decode cX3_cut 34 = .ok (.ireturn, 1) := by decide +kernel
theorem dX3_hasRun_0 : decode cX3_hasRun 0 = .ok (.iload_n 1, 1) := by decide +kernel
theorem dX3_hasRun_1 : decode cX3_hasRun 1 = .ok (.ifCond .lt 21, 3) := by decide +kernel
theorem dX3_hasRun_4 : decode cX3_hasRun 4 = .ok (.iload_n 2, 1) := by decide +kernel
theorem dX3_hasRun_5 : decode cX3_hasRun 5 = .ok (.ifCond .lt 17, 3) := by decide +kernel
theorem dX3_hasRun_8 : decode cX3_hasRun 8 = .ok (.iload_n 1, 1) := by decide +kernel
theorem dX3_hasRun_9 : decode cX3_hasRun 9 = .ok (.aload_n 0, 1) := by decide +kernel
theorem dX3_hasRun_10 : decode cX3_hasRun 10 = .ok (.getfield 15, 3) := by decide +kernel
theorem dX3_hasRun_13 : decode cX3_hasRun 13 = .ok (.iload_n 2, 1) := by decide +kernel
theorem dX3_hasRun_14 : decode cX3_hasRun 14 = .ok (.isub, 1) := by decide +kernel
theorem dX3_hasRun_15 : decode cX3_hasRun 15 = .ok (.if_icmp .gt 7, 3) := by decide +kernel
theorem dX3_hasRun_18 : decode cX3_hasRun 18 = .ok (.iconst 1, 1) := by decide +kernel
theorem dX3_hasRun_19 : decode cX3_hasRun 19 = .ok (.goto 4, 3) := by decide +kernel
theorem dX3_hasRun_22 : decode cX3_hasRun 22 = .ok (.iconst 0, 1) := by decide +kernel
theorem dX3_hasRun_23 : decode cX3_hasRun 23 = .ok (.ireturn, 1) := by decide +kernel
theorem dX4_init_0 : decode cX4_init 0 = .ok (.aload_n 0, 1) := by decide +kernel
theorem dX4_init_1 : decode cX4_init 1 = .ok (.invokespecial 3, 3) := by decide +kernel
theorem dX4_init_4 : decode cX4_init 4 = .ok (.aload_n 0, 1) := by decide +kernel
theorem dX4_init_5 : decode cX4_init 5 = .ok (.bipush 50, 2) := by decide +kernel
theorem dX4_init_7 : decode cX4_init 7 = .ok (.newarray .byte, 2) := by decide +kernel
theorem dX4_init_9 : decode cX4_init 9 = .ok (.putfield 9, 3) := by decide +kernel
theorem dX4_init_12 : decode cX4_init 12 = .ok (.aload_n 0, 1) := by decide +kernel
theorem dX4_init_13 : decode cX4_init 13 = .ok (.iconst 0, 1) := by decide +kernel
theorem dX4_init_14 : decode cX4_init 14 = .ok (.putfield 15, 3) := by decide +kernel
theorem dX4_init_17 : decode cX4_init 17 = .ok (.return_, 1) := by decide +kernel
theorem dX4_append_0 : decode cX4_append 0 = .ok (.aload_n 0, 1) := by decide +kernel
theorem dX4_append_1 : decode cX4_append 1 = .ok (.getfield 15, 3) := by decide +kernel
theorem dX4_append_4 : decode cX4_append 4 = .ok (.bipush 50, 2) := by decide +kernel
theorem dX4_append_6 : decode cX4_append 6 = .ok (.if_icmp .ge 24, 3) := by decide +kernel
theorem dX4_append_9 : decode cX4_append 9 = .ok (.aload_n 0, 1) := by decide +kernel
theorem dX4_append_10 : decode cX4_append 10 = .ok (.getfield 9, 3) := by decide +kernel
theorem dX4_append_13 : decode cX4_append 13 = .ok (.aload_n 0, 1) := by decide +kernel
theorem dX4_append_14 : decode cX4_append 14 = .ok (.getfield 15, 3) := by decide +kernel
theorem dX4_append_17 : decode cX4_append 17 = .ok (.iload_n 1, 1) := by decide +kernel
theorem dX4_append_18 : decode cX4_append 18 = .ok (.i2b, 1) := by decide +kernel
theorem dX4_append_19 : decode cX4_append 19 = .ok (.bastore, 1) := by decide +kernel
theorem dX4_append_20 : decode cX4_append 20 = .ok (.aload_n 0, 1) := by decide +kernel
theorem dX4_append_21 : decode cX4_append 21 = .ok (.dup, 1) := by decide +kernel
theorem dX4_append_22 : decode cX4_append 22 = .ok (.getfield 15, 3) := by decide +kernel
theorem dX4_append_25 : decode cX4_append 25 = .ok (.iconst 1, 1) := by decide +kernel
theorem dX4_append_26 : decode cX4_append 26 = .ok (.iadd, 1) := by decide +kernel
theorem dX4_append_27 : decode cX4_append 27 = .ok (.putfield 15, 3) := by decide +kernel
theorem dX4_append_30 : decode cX4_append 30 = .ok (.return_, 1) := by decide +kernel
theorem dX4_copyTape_0 : decode cX4_copyTape 0 = .ok (.aload_n 1, 1) := by decide +kernel
theorem dX4_copyTape_1 : decode cX4_copyTape 1 = .ok (.getfield 9, 3) := by decide +kernel
theorem dX4_copyTape_4 : decode cX4_copyTape 4 = .ok (.iconst 0, 1) := by decide +kernel
theorem dX4_copyTape_5 : decode cX4_copyTape 5 = .ok (.aload_n 0, 1) := by decide +kernel
theorem dX4_copyTape_6 : decode cX4_copyTape 6 = .ok (.getfield 9, 3) := by decide +kernel
theorem dX4_copyTape_9 : decode cX4_copyTape 9 = .ok (.iconst 0, 1) := by decide +kernel
theorem dX4_copyTape_10 : decode cX4_copyTape 10 = .ok (.bipush 50, 2) := by decide +kernel
theorem dX4_copyTape_12 : decode cX4_copyTape 12 = .ok (.invokestatic 19, 3) := by decide +kernel
theorem dX4_copyTape_15 : decode cX4_copyTape 15 = .ok (.aload_n 0, 1) := by decide +kernel
theorem dX4_copyTape_16 : decode cX4_copyTape 16 = .ok (.aload_n 1, 1) := by decide +kernel
theorem dX4_copyTape_17 : decode cX4_copyTape 17 = .ok (.getfield 15, 3) := by decide +kernel
theorem dX4_copyTape_20 : decode cX4_copyTape 20 = .ok (.putfield 15, 3) := by decide +kernel
theorem dX4_copyTape_23 : decode cX4_copyTape 23 = .ok (.return_, 1) := by decide +kernel
theorem dX5_init_0 : decode cX5_init 0 = .ok (.aload_n 0, 1) := by decide +kernel
theorem dX5_init_1 : decode cX5_init 1 = .ok (.invokespecial 3, 3) := by decide +kernel
theorem dX5_init_4 : decode cX5_init 4 = .ok (.aload_n 0, 1) := by decide +kernel
theorem dX5_init_5 : decode cX5_init 5 = .ok (.new 9, 3) := by decide +kernel
theorem dX5_init_8 : decode cX5_init 8 = .ok (.dup, 1) := by decide +kernel
theorem dX5_init_9 : decode cX5_init 9 = .ok (.invokespecial 11, 3) := by decide +kernel
theorem dX5_init_12 : decode cX5_init 12 = .ok (.putfield 12, 3) := by decide +kernel
theorem dX5_init_15 : decode cX5_init 15 = .ok (.aload_n 0, 1) := by decide +kernel
theorem dX5_init_16 : decode cX5_init 16 = .ok (.iconst 5, 1) := by decide +kernel
theorem dX5_init_17 : decode cX5_init 17 = .ok (.newarray .int, 2) := by decide +kernel
theorem dX5_init_19 : decode cX5_init 19 = .ok (.putfield 18, 3) := by decide +kernel
theorem dX5_init_22 : decode cX5_init 22 = .ok (.aload_n 0, 1) := by decide +kernel
theorem dX5_init_23 : decode cX5_init 23 = .ok (.iconst 0, 1) := by decide +kernel
theorem dX5_init_24 : decode cX5_init 24 = .ok (.putfield 22, 3) := by decide +kernel
theorem dX5_init_27 : decode cX5_init 27 = .ok (.aload_n 0, 1) := by decide +kernel
theorem dX5_init_28 : decode cX5_init 28 = .ok (.bipush 8, 2) := by decide +kernel
theorem dX5_init_30 : decode cX5_init 30 = .ok (.anewarray 26, 3) := by decide +kernel
theorem dX5_init_33 : decode cX5_init 33 = .ok (.putfield 28, 3) := by decide +kernel
theorem dX5_init_36 : decode cX5_init 36 = .ok (.aload_n 0, 1) := by decide +kernel
theorem dX5_init_37 : decode cX5_init 37 = .ok (.iconst 0, 1) := by decide +kernel
theorem dX5_init_38 : decode cX5_init 38 = .ok (.putfield 32, 3) := by decide +kernel
theorem dX5_init_41 : decode cX5_init 41 = .ok (.aload_n 0, 1) := by decide +kernel
theorem dX5_init_42 : decode cX5_init 42 = .ok (.iconst 0, 1) := by decide +kernel
theorem dX5_init_43 : decode cX5_init 43 = .ok (.putfield 35, 3) := by decide +kernel
theorem dX5_init_46 : decode cX5_init 46 = .ok (.aload_n 0, 1) := by decide +kernel
theorem dX5_init_47 : decode cX5_init 47 = .ok (.iconst 1, 1) := by decide +kernel
theorem dX5_init_48 : decode cX5_init 48 = .ok (.putfield 38, 3) := by decide +kernel
theorem dX5_init_51 : decode cX5_init 51 = .ok (.aload_n 0, 1) := by decide +kernel
theorem dX5_init_52 : decode cX5_init 52 = .ok (.new 41, 3) := by decide +kernel
theorem dX5_init_55 : decode cX5_init 55 = .ok (.dup, 1) := by decide +kernel
theorem dX5_init_56 : decode cX5_init 56 = .ok (.invokespecial 43, 3) := by decide +kernel
theorem dX5_init_59 : decode cX5_init 59 = .ok (.putfield 44, 3) := by decide +kernel
theorem dX5_init_62 : decode cX5_init 62 = .ok (.aload_n 0, 1) := by decide +kernel
theorem dX5_init_63 : decode cX5_init 63 = .ok (.new 41, 3) := by decide +kernel
theorem dX5_init_66 : decode cX5_init 66 = .ok (.dup, 1) := by decide +kernel
theorem dX5_init_67 : decode cX5_init 67 = .ok (.invokespecial 43, 3) := by decide +kernel
theorem dX5_init_70 : decode cX5_init 70 = .ok (.putfield 48, 3) := by decide +kernel
theorem dX5_init_73 : decode cX5_init 73 = .ok (.aload_n 0, 1) := by decide +kernel
theorem dX5_init_74 : decode cX5_init 74 = .ok (.new 41, 3) := by decide +kernel
theorem dX5_init_77 : decode cX5_init 77 = .ok (.dup, 1) := by decide +kernel
theorem dX5_init_78 : decode cX5_init 78 = .ok (.invokespecial 43, 3) := by decide +kernel
theorem dX5_init_81 : decode cX5_init 81 = .ok (.putfield 51, 3) := by decide +kernel
theorem dX5_init_84 : decode cX5_init 84 = .ok (.aload_n 0, 1) := by decide +kernel
theorem dX5_init_85 : decode cX5_init 85 = .ok (.bipush 20, 2) := by decide +kernel
theorem dX5_init_87 : decode cX5_init 87 = .ok (.newarray .int, 2) := by decide +kernel
theorem dX5_init_89 : decode cX5_init 89 = .ok (.putfield 54, 3) := by decide +kernel
theorem dX5_init_92 : decode cX5_init 92 = .ok (.aload_n 0, 1) := by decide +kernel
theorem dX5_init_93 : decode cX5_init 93 = .ok (.iconst 0, 1) := by decide +kernel
theorem dX5_init_94 : decode cX5_init 94 = .ok (.putfield 57, 3) := by decide +kernel
theorem dX5_init_97 : decode cX5_init 97 = .ok (.iconst 0, 1) := by decide +kernel
theorem dX5_init_98 : decode cX5_init 98 = .ok (.istore_n 1, 1) := by decide +kernel
theorem dX5_init_99 : decode cX5_init 99 = .ok (.iload_n 1, 1) := by decide +kernel
theorem dX5_init_100 : decode cX5_init 100 = .ok (.bipush 8, 2) := by decide +kernel
theorem dX5_init_102 : decode cX5_init 102 = .ok (.if_icmp .ge 22, 3) := by decide +kernel
theorem dX5_init_105 : decode cX5_init 105 = .ok (.aload_n 0, 1) := by decide +kernel
theorem dX5_init_106 : decode cX5_init 106 = .ok (.getfield 28, 3) := by decide +kernel
theorem dX5_init_109 : decode cX5_init 109 = .ok (.iload_n 1, 1) := by decide +kernel
theorem dX5_init_110 : decode cX5_init 110 = .ok (.new 26, 3) := by decide +kernel
theorem dX5_init_113 : decode cX5_init 113 = .ok (.dup, 1) := by decide +kernel
theorem dX5_init_114 : decode cX5_init 114 = .ok (.invokespecial 60, 3) := by decide +kernel
theorem dX5_init_117 : decode cX5_init 117 = .ok (.aastore, 1) := by decide +kernel
theorem dX5_init_118 : decode cX5_init 118 = .ok (.iinc 1 1, 3) := by decide +kernel
theorem dX5_init_121 : decode cX5_init 121 = .ok (.goto (-22), 3) := by decide +kernel
theorem dX5_init_124 : decode cX5_init 124 = .ok (.return_, 1) := by decide +kernel
theorem dX5_textOf_0 : decode cX5_textOf 0 = .ok (.iload_n 1, 1) := by decide +kernel
theorem dX5_textOf_1 : decode cX5_textOf 1 = .ok (.ifCond .ne 10, 3) := by decide +kernel
theorem dX5_textOf_4 : decode cX5_textOf 4 = .ok (.aload_n 0, 1) := by decide +kernel
theorem dX5_textOf_5 : decode cX5_textOf 5 = .ok (.getfield 48, 3) := by decide +kernel
theorem dX5_textOf_8 : decode cX5_textOf 8 = .ok (.goto 7, 3) := by decide +kernel
theorem dX5_textOf_11 : decode cX5_textOf 11 = .ok (.aload_n 0, 1) := by decide +kernel
theorem dX5_textOf_12 : decode cX5_textOf 12 = .ok (.getfield 51, 3) := by decide +kernel
theorem dX5_textOf_15 : decode cX5_textOf 15 = .ok (.areturn, 1) := by decide +kernel
theorem dX5_villagesOn_0 : decode cX5_villagesOn 0 = .ok (.iconst 0, 1) := by decide +kernel
theorem dX5_villagesOn_1 : decode cX5_villagesOn 1 = .ok (.istore_n 2, 1) := by decide +kernel
theorem dX5_villagesOn_2 : decode cX5_villagesOn 2 = .ok (.iconst 0, 1) := by decide +kernel
theorem dX5_villagesOn_3 : decode cX5_villagesOn 3 = .ok (.istore_n 3, 1) := by decide +kernel
theorem dX5_villagesOn_4 : decode cX5_villagesOn 4 = .ok (.iload_n 3, 1) := by decide +kernel
theorem dX5_villagesOn_5 : decode cX5_villagesOn 5 = .ok (.aload_n 0, 1) := by decide +kernel
theorem dX5_villagesOn_6 : decode cX5_villagesOn 6 = .ok (.getfield 22, 3) := by decide +kernel
theorem dX5_villagesOn_9 : decode cX5_villagesOn 9 = .ok (.if_icmp .ge 25, 3) := by decide +kernel
theorem dX5_villagesOn_12 : decode cX5_villagesOn 12 = .ok (.aload_n 0, 1) := by decide +kernel
theorem dX5_villagesOn_13 : decode cX5_villagesOn 13 = .ok (.getfield 18, 3) := by decide +kernel
theorem dX5_villagesOn_16 : decode cX5_villagesOn 16 = .ok (.iload_n 3, 1) := by decide +kernel
theorem dX5_villagesOn_17 : decode cX5_villagesOn 17 = .ok (.iaload, 1) := by decide +kernel
theorem dX5_villagesOn_18 : decode cX5_villagesOn 18 = .ok (.iload_n 1, 1) := by decide +kernel
theorem dX5_villagesOn_19 : decode cX5_villagesOn 19 = .ok (.if_icmp .ne 9, 3) := by decide +kernel
theorem dX5_villagesOn_22 : decode cX5_villagesOn 22 = .ok (.iload_n 2, 1) := by decide +kernel
theorem dX5_villagesOn_23 : decode cX5_villagesOn 23 = .ok (.iconst 1, 1) := by decide +kernel
theorem dX5_villagesOn_24 : decode cX5_villagesOn 24 = .ok (.iload_n 3, 1) := by decide +kernel
theorem dX5_villagesOn_25 : decode cX5_villagesOn 25 = .ok (.ishl, 1) := by decide +kernel
theorem dX5_villagesOn_26 : decode cX5_villagesOn 26 = .ok (.ior, 1) := by decide +kernel
theorem dX5_villagesOn_27 : decode cX5_villagesOn 27 = .ok (.istore_n 2, 1) := by decide +kernel
theorem dX5_villagesOn_28 : decode cX5_villagesOn 28 = .ok (.iinc 3 1, 3) := by decide +kernel
theorem dX5_villagesOn_31 : decode cX5_villagesOn 31 = .ok (.goto (-27), 3) := by decide +kernel
theorem dX5_villagesOn_34 : decode cX5_villagesOn 34 = .ok (.iload_n 2, 1) := by decide +kernel
theorem dX5_villagesOn_35 : decode cX5_villagesOn 35 = .ok (.ireturn, 1) := by decide +kernel
theorem dX5_seenByAll_0 : decode cX5_seenByAll 0 = .ok (.aload_n 0, 1) := by decide +kernel
theorem dX5_seenByAll_1 : decode cX5_seenByAll 1 = .ok (.getfield 12, 3) := by decide +kernel
theorem dX5_seenByAll_4 : decode cX5_seenByAll 4 = .ok (.iconst 0, 1) := by decide +kernel
theorem dX5_seenByAll_5 : decode cX5_seenByAll 5 = .ok (.invokevirtual 61, 3) := by decide +kernel
theorem dX5_seenByAll_8 : decode cX5_seenByAll 8 = .ok (.istore_n 2, 1) := by decide +kernel
theorem dX5_seenByAll_9 : decode cX5_seenByAll 9 = .ok (.iconst 0, 1) := by decide +kernel
theorem dX5_seenByAll_10 : decode cX5_seenByAll 10 = .ok (.istore_n 3, 1) := by decide +kernel
theorem dX5_seenByAll_11 : decode cX5_seenByAll 11 = .ok (.iconst 0, 1) := by decide +kernel
theorem dX5_seenByAll_12 : decode cX5_seenByAll 12 = .ok (.istore 4, 2) := by decide +kernel
theorem dX5_seenByAll_14 : decode cX5_seenByAll 14 = .ok (.iload 4, 2) := by decide +kernel
theorem dX5_seenByAll_16 : decode cX5_seenByAll 16 = .ok (.aload_n 0, 1) := by decide +kernel
theorem dX5_seenByAll_17 : decode cX5_seenByAll 17 = .ok (.getfield 22, 3) := by decide +kernel
theorem dX5_seenByAll_20 : decode cX5_seenByAll 20 = .ok (.if_icmp .ge 28, 3) := by decide +kernel
theorem dX5_seenByAll_23 : decode cX5_seenByAll 23 = .ok (.iload_n 3, 1) := by decide +kernel
theorem dX5_seenByAll_24 : decode cX5_seenByAll 24 = .ok (.aload_n 0, 1) := by decide +kernel
theorem dX5_seenByAll_25 : decode cX5_seenByAll 25 = .ok (.getfield 12, 3) := by decide +kernel
theorem dX5_seenByAll_28 : decode cX5_seenByAll 28 = .ok (.aload_n 0, 1) := by decide +kernel
theorem dX5_seenByAll_29 : decode cX5_seenByAll 29 = .ok (.getfield 18, 3) := by decide +kernel
theorem dX5_seenByAll_32 : decode cX5_seenByAll 32 = .ok (.iload 4, 2) := by decide +kernel
theorem dX5_seenByAll_34 : decode cX5_seenByAll 34 = .ok (.iaload, 1) := by decide +kernel
theorem dX5_seenByAll_35 : decode cX5_seenByAll 35 = .ok (.iload_n 1, 1) := by decide +kernel
theorem dX5_seenByAll_36 : decode cX5_seenByAll 36 = .ok (.iload_n 2, 1) := by decide +kernel
theorem dX5_seenByAll_37 : decode cX5_seenByAll 37 = .ok (.invokevirtual 65, 3) := by decide +kernel
theorem dX5_seenByAll_40 : decode cX5_seenByAll 40 = .ok (.ior, 1) := by decide +kernel
theorem dX5_seenByAll_41 : decode cX5_seenByAll 41 = .ok (.istore_n 3, 1) := by decide +kernel
theorem dX5_seenByAll_42 : decode cX5_seenByAll 42 = .ok (.iinc 4 1, 3) := by decide +kernel
theorem dX5_seenByAll_45 : decode cX5_seenByAll 45 = .ok (.goto (-31), 3) := by decide +kernel
theorem dX5_seenByAll_48 : decode cX5_seenByAll 48 = .ok (.iload_n 3, 1) := by decide +kernel
theorem dX5_seenByAll_49 : decode cX5_seenByAll 49 = .ok (.ireturn, 1) := by decide +kernel
theorem dX5_openBottles_0 : decode cX5_openBottles 0 = .ok (.iconst 0, 1) := by decide +kernel
theorem dX5_openBottles_1 : decode cX5_openBottles 1 = .ok (.istore_n 1, 1) := by decide +kernel
theorem dX5_openBottles_2 : decode cX5_openBottles 2 = .ok (.iconst 0, 1) := by decide +kernel
theorem dX5_openBottles_3 : decode cX5_openBottles 3 = .ok (.istore_n 2, 1) := by decide +kernel
theorem dX5_openBottles_4 : decode cX5_openBottles 4 = .ok (.iload_n 2, 1) := by decide +kernel
theorem dX5_openBottles_5 : decode cX5_openBottles 5 = .ok (.aload_n 0, 1) := by decide +kernel
theorem dX5_openBottles_6 : decode cX5_openBottles 6 = .ok (.getfield 32, 3) := by decide +kernel
theorem dX5_openBottles_9 : decode cX5_openBottles 9 = .ok (.if_icmp .ge 24, 3) := by decide +kernel
theorem dX5_openBottles_12 : decode cX5_openBottles 12 = .ok (.iload_n 1, 1) := by decide +kernel
theorem dX5_openBottles_13 : decode cX5_openBottles 13 = .ok (.aload_n 0, 1) := by decide +kernel
theorem dX5_openBottles_14 : decode cX5_openBottles 14 = .ok (.getfield 28, 3) := by decide +kernel
theorem dX5_openBottles_17 : decode cX5_openBottles 17 = .ok (.iload_n 2, 1) := by decide +kernel
theorem dX5_openBottles_18 : decode cX5_openBottles 18 = .ok (.aaload, 1) := by decide +kernel
theorem dX5_openBottles_19 : decode cX5_openBottles 19 = .ok (.getfield 69, 3) := by decide +kernel
theorem dX5_openBottles_22 : decode cX5_openBottles 22 = .ok (.invokestatic 73, 3) := by decide +kernel
theorem dX5_openBottles_25 : decode cX5_openBottles 25 = .ok (.iadd, 1) := by decide +kernel
theorem dX5_openBottles_26 : decode cX5_openBottles 26 = .ok (.istore_n 1, 1) := by decide +kernel
theorem dX5_openBottles_27 : decode cX5_openBottles 27 = .ok (.iinc 2 1, 3) := by decide +kernel
theorem dX5_openBottles_30 : decode cX5_openBottles 30 = .ok (.goto (-26), 3) := by decide +kernel
theorem dX5_openBottles_33 : decode cX5_openBottles 33 = .ok (.iload_n 1, 1) := by decide +kernel
theorem dX5_openBottles_34 : decode cX5_openBottles 34 = .ok (.ireturn, 1) := by decide +kernel
theorem dX5_passDay_0 : decode cX5_passDay 0 = .ok (.aload_n 0, 1) := by decide +kernel
theorem dX5_passDay_1 : decode cX5_passDay 1 = .ok (.getfield 12, 3) := by decide +kernel
theorem dX5_passDay_4 : decode cX5_passDay 4 = .ok (.invokevirtual 77, 3) := by decide +kernel
theorem dX5_passDay_7 : decode cX5_passDay 7 = .ok (.iconst 0, 1) := by decide +kernel
theorem dX5_passDay_8 : decode cX5_passDay 8 = .ok (.istore_n 1, 1) := by decide +kernel
theorem dX5_passDay_9 : decode cX5_passDay 9 = .ok (.iload_n 1, 1) := by decide +kernel
theorem dX5_passDay_10 : decode cX5_passDay 10 = .ok (.aload_n 0, 1) := by decide +kernel
theorem dX5_passDay_11 : decode cX5_passDay 11 = .ok (.getfield 32, 3) := by decide +kernel
theorem dX5_passDay_14 : decode cX5_passDay 14 = .ok (.if_icmp .ge 18, 3) := by decide +kernel
theorem dX5_passDay_17 : decode cX5_passDay 17 = .ok (.aload_n 0, 1) := by decide +kernel
theorem dX5_passDay_18 : decode cX5_passDay 18 = .ok (.getfield 28, 3) := by decide +kernel
theorem dX5_passDay_21 : decode cX5_passDay 21 = .ok (.iload_n 1, 1) := by decide +kernel
theorem dX5_passDay_22 : decode cX5_passDay 22 = .ok (.aaload, 1) := by decide +kernel
theorem dX5_passDay_23 : decode cX5_passDay 23 = .ok (.invokevirtual 80, 3) := by decide +kernel
theorem dX5_passDay_26 : decode cX5_passDay 26 = .ok (.iinc 1 1, 3) := by decide +kernel
theorem dX5_passDay_29 : decode cX5_passDay 29 = .ok (.goto (-20), 3) := by decide +kernel
theorem dX5_passDay_32 : decode cX5_passDay 32 = .ok (.aload_n 0, 1) := by decide +kernel
theorem dX5_passDay_33 : decode cX5_passDay 33 = .ok (.dup, 1) := by decide +kernel
theorem dX5_passDay_34 : decode cX5_passDay 34 = .ok (.getfield 35, 3) := by decide +kernel
theorem dX5_passDay_37 : decode cX5_passDay 37 = .ok (.iconst 1, 1) := by decide +kernel
theorem dX5_passDay_38 : decode cX5_passDay 38 = .ok (.iadd, 1) := by decide +kernel
theorem dX5_passDay_39 : decode cX5_passDay 39 = .ok (.putfield 35, 3) := by decide +kernel
theorem dX5_passDay_42 : decode cX5_passDay 42 = .ok (.return_, 1) := by decide +kernel
theorem dX5_passLooseDay_0 : decode cX5_passLooseDay 0 = .ok (.aload_n 0, 1) := by decide +kernel
theorem dX5_passLooseDay_1 : decode cX5_passLooseDay 1 = .ok (.invokevirtual 83, 3) := by decide +kernel
theorem dX5_passLooseDay_4 : decode cX5_passLooseDay 4 = .ok (.bipush 20, 2) := by decide +kernel
theorem dX5_passLooseDay_6 : decode cX5_passLooseDay 6 = .ok (.irem, 1) := by decide +kernel
theorem dX5_passLooseDay_7 : decode cX5_passLooseDay 7 = .ok (.istore_n 1, 1) := by decide +kernel
theorem dX5_passLooseDay_8 : decode cX5_passLooseDay 8 = .ok (.aload_n 0, 1) := by decide +kernel
theorem dX5_passLooseDay_9 : decode cX5_passLooseDay 9 = .ok (.getfield 12, 3) := by decide +kernel
theorem dX5_passLooseDay_12 : decode cX5_passLooseDay 12 = .ok (.getfield 87, 3) := by decide +kernel
theorem dX5_passLooseDay_15 : decode cX5_passLooseDay 15 = .ok (.iload_n 1, 1) := by decide +kernel
theorem dX5_passLooseDay_16 : decode cX5_passLooseDay 16 = .ok (.aload_n 0, 1) := by decide +kernel
theorem dX5_passLooseDay_17 : decode cX5_passLooseDay 17 = .ok (.invokevirtual 83, 3) := by decide +kernel
theorem dX5_passLooseDay_20 : decode cX5_passLooseDay 20 = .ok (.bipush 10, 2) := by decide +kernel
theorem dX5_passLooseDay_22 : decode cX5_passLooseDay 22 = .ok (.irem, 1) := by decide +kernel
theorem dX5_passLooseDay_23 : decode cX5_passLooseDay 23 = .ok (.iastore, 1) := by decide +kernel
theorem dX5_passLooseDay_24 : decode cX5_passLooseDay 24 = .ok (.aload_n 0, 1) := by decide +kernel
theorem dX5_passLooseDay_25 : decode cX5_passLooseDay 25 = .ok (.invokevirtual 90, 3) := by decide +kernel
theorem dX5_passLooseDay_28 : decode cX5_passLooseDay 28 = .ok (.return_, 1) := by decide +kernel
theorem dX5_draw_0 : decode cX5_draw 0 = .ok (.aload_n 0, 1) := by decide +kernel
theorem dX5_draw_1 : decode cX5_draw 1 = .ok (.aload_n 0, 1) := by decide +kernel
theorem dX5_draw_2 : decode cX5_draw 2 = .ok (.getfield 38, 3) := by decide +kernel
theorem dX5_draw_5 : decode cX5_draw 5 = .ok (.ldc 93, 2) := by decide +kernel
theorem dX5_draw_7 : decode cX5_draw 7 = .ok (.imul, 1) := by decide +kernel
theorem dX5_draw_8 : decode cX5_draw 8 = .ok (.sipush 12345, 3) := by decide +kernel
theorem dX5_draw_11 : decode cX5_draw 11 = .ok (.iadd, 1) := by decide +kernel
theorem dX5_draw_12 : decode cX5_draw 12 = .ok (.putfield 38, 3) := by decide +kernel
theorem dX5_draw_15 : decode cX5_draw 15 = .ok (.aload_n 0, 1) := by decide +kernel
theorem dX5_draw_16 : decode cX5_draw 16 = .ok (.getfield 38, 3) := by decide +kernel
theorem dX5_draw_19 : decode cX5_draw 19 = .ok (.bipush 8, 2) := by decide +kernel
theorem dX5_draw_21 : decode cX5_draw 21 = .ok (.iushr, 1) := by decide +kernel
theorem dX5_draw_22 : decode cX5_draw 22 = .ok (.ireturn, 1) := by decide +kernel
theorem dX5_copyTown_0 : decode cX5_copyTown 0 = .ok (.aload_n 0, 1) := by decide +kernel
theorem dX5_copyTown_1 : decode cX5_copyTown 1 = .ok (.getfield 12, 3) := by decide +kernel
theorem dX5_copyTown_4 : decode cX5_copyTown 4 = .ok (.aload_n 1, 1) := by decide +kernel
theorem dX5_copyTown_5 : decode cX5_copyTown 5 = .ok (.getfield 12, 3) := by decide +kernel
theorem dX5_copyTown_8 : decode cX5_copyTown 8 = .ok (.invokevirtual 94, 3) := by decide +kernel
theorem dX5_copyTown_11 : decode cX5_copyTown 11 = .ok (.aload_n 1, 1) := by decide +kernel
theorem dX5_copyTown_12 : decode cX5_copyTown 12 = .ok (.getfield 18, 3) := by decide +kernel
theorem dX5_copyTown_15 : decode cX5_copyTown 15 = .ok (.iconst 0, 1) := by decide +kernel
theorem dX5_copyTown_16 : decode cX5_copyTown 16 = .ok (.aload_n 0, 1) := by decide +kernel
theorem dX5_copyTown_17 : decode cX5_copyTown 17 = .ok (.getfield 18, 3) := by decide +kernel
theorem dX5_copyTown_20 : decode cX5_copyTown 20 = .ok (.iconst 0, 1) := by decide +kernel
theorem dX5_copyTown_21 : decode cX5_copyTown 21 = .ok (.iconst 5, 1) := by decide +kernel
theorem dX5_copyTown_22 : decode cX5_copyTown 22 = .ok (.invokestatic 98, 3) := by decide +kernel
theorem dX5_copyTown_25 : decode cX5_copyTown 25 = .ok (.aload_n 0, 1) := by decide +kernel
theorem dX5_copyTown_26 : decode cX5_copyTown 26 = .ok (.aload_n 1, 1) := by decide +kernel
theorem dX5_copyTown_27 : decode cX5_copyTown 27 = .ok (.getfield 22, 3) := by decide +kernel
theorem dX5_copyTown_30 : decode cX5_copyTown 30 = .ok (.putfield 22, 3) := by decide +kernel
theorem dX5_copyTown_33 : decode cX5_copyTown 33 = .ok (.iconst 0, 1) := by decide +kernel
theorem dX5_copyTown_34 : decode cX5_copyTown 34 = .ok (.istore_n 2, 1) := by decide +kernel
theorem dX5_copyTown_35 : decode cX5_copyTown 35 = .ok (.iload_n 2, 1) := by decide +kernel
theorem dX5_copyTown_36 : decode cX5_copyTown 36 = .ok (.bipush 8, 2) := by decide +kernel
theorem dX5_copyTown_38 : decode cX5_copyTown 38 = .ok (.if_icmp .ge 24, 3) := by decide +kernel
theorem dX5_copyTown_41 : decode cX5_copyTown 41 = .ok (.aload_n 0, 1) := by decide +kernel
theorem dX5_copyTown_42 : decode cX5_copyTown 42 = .ok (.getfield 28, 3) := by decide +kernel
theorem dX5_copyTown_45 : decode cX5_copyTown 45 = .ok (.iload_n 2, 1) := by decide +kernel
theorem dX5_copyTown_46 : decode cX5_copyTown 46 = .ok (.aaload, 1) := by decide +kernel
theorem dX5_copyTown_47 : decode cX5_copyTown 47 = .ok (.aload_n 1, 1) := by decide +kernel
theorem dX5_copyTown_48 : decode cX5_copyTown 48 = .ok (.getfield 28, 3) := by decide +kernel
theorem dX5_copyTown_51 : decode cX5_copyTown 51 = .ok (.iload_n 2, 1) := by decide +kernel
theorem dX5_copyTown_52 : decode cX5_copyTown 52 = .ok (.aaload, 1) := by decide +kernel
theorem dX5_copyTown_53 : decode cX5_copyTown 53 = .ok (.invokevirtual 104, 3) := by decide +kernel
theorem dX5_copyTown_56 : decode cX5_copyTown 56 = .ok (.iinc 2 1, 3) := by decide +kernel
theorem dX5_copyTown_59 : decode cX5_copyTown 59 = .ok (.goto (-24), 3) := by decide +kernel
theorem dX5_copyTown_62 : decode cX5_copyTown 62 = .ok (.aload_n 0, 1) := by decide +kernel
theorem dX5_copyTown_63 : decode cX5_copyTown 63 = .ok (.aload_n 1, 1) := by decide +kernel
theorem dX5_copyTown_64 : decode cX5_copyTown 64 = .ok (.getfield 32, 3) := by decide +kernel
theorem dX5_copyTown_67 : decode cX5_copyTown 67 = .ok (.putfield 32, 3) := by decide +kernel
theorem dX5_copyTown_70 : decode cX5_copyTown 70 = .ok (.aload_n 0, 1) := by decide +kernel
theorem dX5_copyTown_71 : decode cX5_copyTown 71 = .ok (.aload_n 1, 1) := by decide +kernel
theorem dX5_copyTown_72 : decode cX5_copyTown 72 = .ok (.getfield 35, 3) := by decide +kernel
theorem dX5_copyTown_75 : decode cX5_copyTown 75 = .ok (.putfield 35, 3) := by decide +kernel
theorem dX5_copyTown_78 : decode cX5_copyTown 78 = .ok (.aload_n 0, 1) := by decide +kernel
theorem dX5_copyTown_79 : decode cX5_copyTown 79 = .ok (.aload_n 1, 1) := by decide +kernel
theorem dX5_copyTown_80 : decode cX5_copyTown 80 = .ok (.getfield 38, 3) := by decide +kernel
theorem dX5_copyTown_83 : decode cX5_copyTown 83 = .ok (.putfield 38, 3) := by decide +kernel
theorem dX5_copyTown_86 : decode cX5_copyTown 86 = .ok (.aload_n 0, 1) := by decide +kernel
theorem dX5_copyTown_87 : decode cX5_copyTown 87 = .ok (.getfield 44, 3) := by decide +kernel
theorem dX5_copyTown_90 : decode cX5_copyTown 90 = .ok (.aload_n 1, 1) := by decide +kernel
theorem dX5_copyTown_91 : decode cX5_copyTown 91 = .ok (.getfield 44, 3) := by decide +kernel
theorem dX5_copyTown_94 : decode cX5_copyTown 94 = .ok (.invokevirtual 108, 3) := by decide +kernel
theorem dX5_copyTown_97 : decode cX5_copyTown 97 = .ok (.aload_n 0, 1) := by decide +kernel
theorem dX5_copyTown_98 : decode cX5_copyTown 98 = .ok (.getfield 48, 3) := by decide +kernel
theorem dX5_copyTown_101 : decode cX5_copyTown 101 = .ok (.aload_n 1, 1) := by decide +kernel
theorem dX5_copyTown_102 : decode cX5_copyTown 102 = .ok (.getfield 48, 3) := by decide +kernel
theorem dX5_copyTown_105 : decode cX5_copyTown 105 = .ok (.invokevirtual 108, 3) := by decide +kernel
theorem dX5_copyTown_108 : decode cX5_copyTown 108 = .ok (.aload_n 0, 1) := by decide +kernel
theorem dX5_copyTown_109 : decode cX5_copyTown 109 = .ok (.getfield 51, 3) := by decide +kernel
theorem dX5_copyTown_112 : decode cX5_copyTown 112 = .ok (.aload_n 1, 1) := by decide +kernel
theorem dX5_copyTown_113 : decode cX5_copyTown 113 = .ok (.getfield 51, 3) := by decide +kernel
theorem dX5_copyTown_116 : decode cX5_copyTown 116 = .ok (.invokevirtual 108, 3) := by decide +kernel
theorem dX5_copyTown_119 : decode cX5_copyTown 119 = .ok (.aload_n 1, 1) := by decide +kernel
theorem dX5_copyTown_120 : decode cX5_copyTown 120 = .ok (.getfield 54, 3) := by decide +kernel
theorem dX5_copyTown_123 : decode cX5_copyTown 123 = .ok (.iconst 0, 1) := by decide +kernel
theorem dX5_copyTown_124 : decode cX5_copyTown 124 = .ok (.aload_n 0, 1) := by decide +kernel
theorem dX5_copyTown_125 : decode cX5_copyTown 125 = .ok (.getfield 54, 3) := by decide +kernel
theorem dX5_copyTown_128 : decode cX5_copyTown 128 = .ok (.iconst 0, 1) := by decide +kernel
theorem dX5_copyTown_129 : decode cX5_copyTown 129 = .ok (.bipush 20, 2) := by decide +kernel
theorem dX5_copyTown_131 : decode cX5_copyTown 131 = .ok (.invokestatic 98, 3) := by decide +kernel
theorem dX5_copyTown_134 : decode cX5_copyTown 134 = .ok (.aload_n 0, 1) := by decide +kernel
theorem dX5_copyTown_135 : decode cX5_copyTown 135 = .ok (.aload_n 1, 1) := by decide +kernel
theorem dX5_copyTown_136 : decode cX5_copyTown 136 = .ok (.getfield 57, 3) := by decide +kernel
theorem dX5_copyTown_139 : decode cX5_copyTown 139 = .ok (.putfield 57, 3) := by decide +kernel
theorem dX5_copyTown_142 : decode cX5_copyTown 142 = .ok (.return_, 1) := by decide +kernel
theorem dX6_init_0 : decode cX6_init 0 = .ok (.aload_n 0, 1) := by decide +kernel
theorem dX6_init_1 : decode cX6_init 1 = .ok (.invokespecial 3, 3) := by decide +kernel
theorem dX6_init_4 : decode cX6_init 4 = .ok (.aload_n 0, 1) := by decide +kernel
