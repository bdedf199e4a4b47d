theorem d_Rw_init_0 : decode m_Rw_init.2.1 0 = .ok (.aload_n 0, 1) := by decide +kernel
theorem d_Rw_init_1 : decode m_Rw_init.2.1 1 = .ok (.invokespecial 3, 3) := by decide +kernel
theorem d_Rw_init_4 : decode m_Rw_init.2.1 4 = .ok (.aload_n 0, 1) := by decide +kernel
theorem d_Rw_init_5 : decode m_Rw_init.2.1 5 = .ok (.bipush 8, 2) := by decide +kernel
theorem d_Rw_init_7 : decode m_Rw_init.2.1 7 = .ok (.anewarray 9, 3) := by decide +kernel
theorem d_Rw_init_10 : decode m_Rw_init.2.1 10 = .ok (.putfield 11, 3) := by decide +kernel
theorem d_Rw_init_13 : decode m_Rw_init.2.1 13 = .ok (.aload_n 0, 1) := by decide +kernel
theorem d_Rw_init_14 : decode m_Rw_init.2.1 14 = .ok (.iconst 0, 1) := by decide +kernel
theorem d_Rw_init_15 : decode m_Rw_init.2.1 15 = .ok (.putfield 17, 3) := by decide +kernel
theorem d_Rw_init_18 : decode m_Rw_init.2.1 18 = .ok (.aload_n 0, 1) := by decide +kernel
theorem d_Rw_init_19 : decode m_Rw_init.2.1 19 = .ok (.new 21, 3) := by decide +kernel
theorem d_Rw_init_22 : decode m_Rw_init.2.1 22 = .ok (.dup, 1) := by decide +kernel
theorem d_Rw_init_23 : decode m_Rw_init.2.1 23 = .ok (.invokespecial 23, 3) := by decide +kernel
theorem d_Rw_init_26 : decode m_Rw_init.2.1 26 = .ok (.putfield 24, 3) := by decide +kernel
theorem d_Rw_init_29 : decode m_Rw_init.2.1 29 = .ok (.aload_n 0, 1) := by decide +kernel
theorem d_Rw_init_30 : decode m_Rw_init.2.1 30 = .ok (.new 21, 3) := by decide +kernel
theorem d_Rw_init_33 : decode m_Rw_init.2.1 33 = .ok (.dup, 1) := by decide +kernel
theorem d_Rw_init_34 : decode m_Rw_init.2.1 34 = .ok (.invokespecial 23, 3) := by decide +kernel
theorem d_Rw_init_37 : decode m_Rw_init.2.1 37 = .ok (.putfield 28, 3) := by decide +kernel
theorem d_Rw_init_40 : decode m_Rw_init.2.1 40 = .ok (.aload_n 0, 1) := by decide +kernel
theorem d_Rw_init_41 : decode m_Rw_init.2.1 41 = .ok (.iconst 4, 1) := by decide +kernel
theorem d_Rw_init_42 : decode m_Rw_init.2.1 42 = .ok (.newarray .int, 2) := by decide +kernel
theorem d_Rw_init_44 : decode m_Rw_init.2.1 44 = .ok (.putfield 31, 3) := by decide +kernel
theorem d_Rw_init_47 : decode m_Rw_init.2.1 47 = .ok (.aload_n 0, 1) := by decide +kernel
theorem d_Rw_init_48 : decode m_Rw_init.2.1 48 = .ok (.new 35, 3) := by decide +kernel
theorem d_Rw_init_51 : decode m_Rw_init.2.1 51 = .ok (.dup, 1) := by decide +kernel
theorem d_Rw_init_52 : decode m_Rw_init.2.1 52 = .ok (.invokespecial 37, 3) := by decide +kernel
theorem d_Rw_init_55 : decode m_Rw_init.2.1 55 = .ok (.putfield 38, 3) := by decide +kernel
theorem d_Rw_init_58 : decode m_Rw_init.2.1 58 = .ok (.aload_n 0, 1) := by decide +kernel
theorem d_Rw_init_59 : decode m_Rw_init.2.1 59 = .ok (.new 35, 3) := by decide +kernel
theorem d_Rw_init_62 : decode m_Rw_init.2.1 62 = .ok (.dup, 1) := by decide +kernel
theorem d_Rw_init_63 : decode m_Rw_init.2.1 63 = .ok (.invokespecial 37, 3) := by decide +kernel
theorem d_Rw_init_66 : decode m_Rw_init.2.1 66 = .ok (.putfield 42, 3) := by decide +kernel
theorem d_Rw_init_69 : decode m_Rw_init.2.1 69 = .ok (.iconst 0, 1) := by decide +kernel
theorem d_Rw_init_70 : decode m_Rw_init.2.1 70 = .ok (.istore_n 1, 1) := by decide +kernel
theorem d_Rw_init_71 : decode m_Rw_init.2.1 71 = .ok (.iload_n 1, 1) := by decide +kernel
theorem d_Rw_init_72 : decode m_Rw_init.2.1 72 = .ok (.bipush 8, 2) := by decide +kernel
theorem d_Rw_init_74 : decode m_Rw_init.2.1 74 = .ok (.if_icmp .ge 22, 3) := by decide +kernel
theorem d_Rw_init_77 : decode m_Rw_init.2.1 77 = .ok (.aload_n 0, 1) := by decide +kernel
theorem d_Rw_init_78 : decode m_Rw_init.2.1 78 = .ok (.getfield 11, 3) := by decide +kernel
theorem d_Rw_init_81 : decode m_Rw_init.2.1 81 = .ok (.iload_n 1, 1) := by decide +kernel
theorem d_Rw_init_82 : decode m_Rw_init.2.1 82 = .ok (.new 9, 3) := by decide +kernel
theorem d_Rw_init_85 : decode m_Rw_init.2.1 85 = .ok (.dup, 1) := by decide +kernel
theorem d_Rw_init_86 : decode m_Rw_init.2.1 86 = .ok (.invokespecial 45, 3) := by decide +kernel
theorem d_Rw_init_89 : decode m_Rw_init.2.1 89 = .ok (.aastore, 1) := by decide +kernel
theorem d_Rw_init_90 : decode m_Rw_init.2.1 90 = .ok (.iinc 1 1, 3) := by decide +kernel
theorem d_Rw_init_93 : decode m_Rw_init.2.1 93 = .ok (.goto (-22), 3) := by decide +kernel
theorem d_Rw_init_96 : decode m_Rw_init.2.1 96 = .ok (.return_, 1) := by decide +kernel
theorem d_Rw_addRule_0 : decode m_Rw_addRule.2.1 0 = .ok (.aload_n 0, 1) := by decide +kernel
theorem d_Rw_addRule_1 : decode m_Rw_addRule.2.1 1 = .ok (.getfield 11, 3) := by decide +kernel
theorem d_Rw_addRule_4 : decode m_Rw_addRule.2.1 4 = .ok (.aload_n 0, 1) := by decide +kernel
theorem d_Rw_addRule_5 : decode m_Rw_addRule.2.1 5 = .ok (.getfield 17, 3) := by decide +kernel
theorem d_Rw_addRule_8 : decode m_Rw_addRule.2.1 8 = .ok (.aaload, 1) := by decide +kernel
theorem d_Rw_addRule_9 : decode m_Rw_addRule.2.1 9 = .ok (.astore 4, 2) := by decide +kernel
theorem d_Rw_addRule_11 : decode m_Rw_addRule.2.1 11 = .ok (.aload 4, 2) := by decide +kernel
theorem d_Rw_addRule_13 : decode m_Rw_addRule.2.1 13 = .ok (.getfield 46, 3) := by decide +kernel
theorem d_Rw_addRule_16 : decode m_Rw_addRule.2.1 16 = .ok (.aload_n 1, 1) := by decide +kernel
theorem d_Rw_addRule_17 : decode m_Rw_addRule.2.1 17 = .ok (.invokevirtual 49, 3) := by decide +kernel
theorem d_Rw_addRule_20 : decode m_Rw_addRule.2.1 20 = .ok (.aload 4, 2) := by decide +kernel
theorem d_Rw_addRule_22 : decode m_Rw_addRule.2.1 22 = .ok (.getfield 53, 3) := by decide +kernel
theorem d_Rw_addRule_25 : decode m_Rw_addRule.2.1 25 = .ok (.aload_n 2, 1) := by decide +kernel
theorem d_Rw_addRule_26 : decode m_Rw_addRule.2.1 26 = .ok (.invokevirtual 49, 3) := by decide +kernel
theorem d_Rw_addRule_29 : decode m_Rw_addRule.2.1 29 = .ok (.aload 4, 2) := by decide +kernel
theorem d_Rw_addRule_31 : decode m_Rw_addRule.2.1 31 = .ok (.iload_n 3, 1) := by decide +kernel
theorem d_Rw_addRule_32 : decode m_Rw_addRule.2.1 32 = .ok (.putfield 56, 3) := by decide +kernel
theorem d_Rw_addRule_35 : decode m_Rw_addRule.2.1 35 = .ok (.aload_n 0, 1) := by decide +kernel
theorem d_Rw_addRule_36 : decode m_Rw_addRule.2.1 36 = .ok (.dup, 1) := by decide +kernel
theorem d_Rw_addRule_37 : decode m_Rw_addRule.2.1 37 = .ok (.getfield 17, 3) := by decide +kernel
theorem d_Rw_addRule_40 : decode m_Rw_addRule.2.1 40 = .ok (.iconst 1, 1) := by decide +kernel
theorem d_Rw_addRule_41 : decode m_Rw_addRule.2.1 41 = .ok (.iadd, 1) := by decide +kernel
theorem d_Rw_addRule_42 : decode m_Rw_addRule.2.1 42 = .ok (.putfield 17, 3) := by decide +kernel
theorem d_Rw_addRule_45 : decode m_Rw_addRule.2.1 45 = .ok (.return_, 1) := by decide +kernel
theorem d_Rw_normalize_0 : decode m_Rw_normalize.2.1 0 = .ok (.aload_n 0, 1) := by decide +kernel
theorem d_Rw_normalize_1 : decode m_Rw_normalize.2.1 1 = .ok (.getfield 24, 3) := by decide +kernel
theorem d_Rw_normalize_4 : decode m_Rw_normalize.2.1 4 = .ok (.aload_n 1, 1) := by decide +kernel
theorem d_Rw_normalize_5 : decode m_Rw_normalize.2.1 5 = .ok (.invokevirtual 49, 3) := by decide +kernel
theorem d_Rw_normalize_8 : decode m_Rw_normalize.2.1 8 = .ok (.iconst 0, 1) := by decide +kernel
theorem d_Rw_normalize_9 : decode m_Rw_normalize.2.1 9 = .ok (.istore_n 3, 1) := by decide +kernel
theorem d_Rw_normalize_10 : decode m_Rw_normalize.2.1 10 = .ok (.iload_n 3, 1) := by decide +kernel
theorem d_Rw_normalize_11 : decode m_Rw_normalize.2.1 11 = .ok (.bipush 50, 2) := by decide +kernel
theorem d_Rw_normalize_13 : decode m_Rw_normalize.2.1 13 = .ok (.if_icmp .gt 26, 3) := by decide +kernel
theorem d_Rw_normalize_16 : decode m_Rw_normalize.2.1 16 = .ok (.aload_n 0, 1) := by decide +kernel
theorem d_Rw_normalize_17 : decode m_Rw_normalize.2.1 17 = .ok (.invokevirtual 59, 3) := by decide +kernel
theorem d_Rw_normalize_20 : decode m_Rw_normalize.2.1 20 = .ok (.ifCond .ne 13, 3) := by decide +kernel
theorem d_Rw_normalize_23 : decode m_Rw_normalize.2.1 23 = .ok (.aload_n 2, 1) := by decide +kernel
theorem d_Rw_normalize_24 : decode m_Rw_normalize.2.1 24 = .ok (.aload_n 0, 1) := by decide +kernel
theorem d_Rw_normalize_25 : decode m_Rw_normalize.2.1 25 = .ok (.getfield 24, 3) := by decide +kernel
theorem d_Rw_normalize_28 : decode m_Rw_normalize.2.1 28 = .ok (.invokevirtual 49, 3) := by decide +kernel
theorem d_Rw_normalize_31 : decode m_Rw_normalize.2.1 31 = .ok (.iload_n 3, 1) := by decide +kernel
theorem d_Rw_normalize_32 : decode m_Rw_normalize.2.1 32 = .ok (.ireturn, 1) := by decide +kernel
theorem d_Rw_normalize_33 : decode m_Rw_normalize.2.1 33 = .ok (.iinc 3 1, 3) := by decide +kernel
theorem d_Rw_normalize_36 : decode m_Rw_normalize.2.1 36 = .ok (.goto (-26), 3) := by decide +kernel
theorem d_Rw_normalize_39 : decode m_Rw_normalize.2.1 39 = .ok (.new 63, 3) := by decide +kernel
theorem d_Rw_normalize_42 : decode m_Rw_normalize.2.1 42 = .ok (.dup, 1) := by decide +kernel
theorem d_Rw_normalize_43 : decode m_Rw_normalize.2.1 43 = .ok (.invokespecial 65, 3) := by decide +kernel
theorem d_Rw_normalize_46 : decode m_Rw_normalize.2.1 46 = .ok (.athrow, 1) := by decide +kernel
theorem d_Rw_step_0 : decode m_Rw_step.2.1 0 = .ok (.iconst 0, 1) := by decide +kernel
theorem d_Rw_step_1 : decode m_Rw_step.2.1 1 = .ok (.istore_n 1, 1) := by decide +kernel
theorem d_Rw_step_2 : decode m_Rw_step.2.1 2 = .ok (.iload_n 1, 1) := by decide +kernel
theorem d_Rw_step_3 : decode m_Rw_step.2.1 3 = .ok (.aload_n 0, 1) := by decide +kernel
theorem d_Rw_step_4 : decode m_Rw_step.2.1 4 = .ok (.getfield 24, 3) := by decide +kernel
theorem d_Rw_step_7 : decode m_Rw_step.2.1 7 = .ok (.getfield 66, 3) := by decide +kernel
theorem d_Rw_step_10 : decode m_Rw_step.2.1 10 = .ok (.if_icmp .ge 66, 3) := by decide +kernel
theorem d_Rw_step_13 : decode m_Rw_step.2.1 13 = .ok (.aload_n 0, 1) := by decide +kernel
theorem d_Rw_step_14 : decode m_Rw_step.2.1 14 = .ok (.getfield 24, 3) := by decide +kernel
theorem d_Rw_step_17 : decode m_Rw_step.2.1 17 = .ok (.iload_n 1, 1) := by decide +kernel
theorem d_Rw_step_18 : decode m_Rw_step.2.1 18 = .ok (.invokevirtual 69, 3) := by decide +kernel
theorem d_Rw_step_21 : decode m_Rw_step.2.1 21 = .ok (.iconst 2, 1) := by decide +kernel
theorem d_Rw_step_22 : decode m_Rw_step.2.1 22 = .ok (.if_icmp .ne 24, 3) := by decide +kernel
theorem d_Rw_step_25 : decode m_Rw_step.2.1 25 = .ok (.aload_n 0, 1) := by decide +kernel
theorem d_Rw_step_26 : decode m_Rw_step.2.1 26 = .ok (.getfield 24, 3) := by decide +kernel
theorem d_Rw_step_29 : decode m_Rw_step.2.1 29 = .ok (.iload_n 1, 1) := by decide +kernel
theorem d_Rw_step_30 : decode m_Rw_step.2.1 30 = .ok (.iconst 1, 1) := by decide +kernel
theorem d_Rw_step_31 : decode m_Rw_step.2.1 31 = .ok (.iadd, 1) := by decide +kernel
theorem d_Rw_step_32 : decode m_Rw_step.2.1 32 = .ok (.invokevirtual 69, 3) := by decide +kernel
theorem d_Rw_step_35 : decode m_Rw_step.2.1 35 = .ok (.iconst 3, 1) := by decide +kernel
theorem d_Rw_step_36 : decode m_Rw_step.2.1 36 = .ok (.if_icmp .ne 10, 3) := by decide +kernel
theorem d_Rw_step_39 : decode m_Rw_step.2.1 39 = .ok (.aload_n 0, 1) := by decide +kernel
theorem d_Rw_step_40 : decode m_Rw_step.2.1 40 = .ok (.iload_n 1, 1) := by decide +kernel
theorem d_Rw_step_41 : decode m_Rw_step.2.1 41 = .ok (.invokevirtual 73, 3) := by decide +kernel
theorem d_Rw_step_44 : decode m_Rw_step.2.1 44 = .ok (.iconst 1, 1) := by decide +kernel
theorem d_Rw_step_45 : decode m_Rw_step.2.1 45 = .ok (.ireturn, 1) := by decide +kernel
theorem d_Rw_step_46 : decode m_Rw_step.2.1 46 = .ok (.aload_n 0, 1) := by decide +kernel
theorem d_Rw_step_47 : decode m_Rw_step.2.1 47 = .ok (.iload_n 1, 1) := by decide +kernel
theorem d_Rw_step_48 : decode m_Rw_step.2.1 48 = .ok (.invokevirtual 77, 3) := by decide +kernel
theorem d_Rw_step_51 : decode m_Rw_step.2.1 51 = .ok (.istore_n 2, 1) := by decide +kernel
theorem d_Rw_step_52 : decode m_Rw_step.2.1 52 = .ok (.iload_n 2, 1) := by decide +kernel
theorem d_Rw_step_53 : decode m_Rw_step.2.1 53 = .ok (.iconst (-1), 1) := by decide +kernel
theorem d_Rw_step_54 : decode m_Rw_step.2.1 54 = .ok (.if_icmp .eq 16, 3) := by decide +kernel
theorem d_Rw_step_57 : decode m_Rw_step.2.1 57 = .ok (.aload_n 0, 1) := by decide +kernel
theorem d_Rw_step_58 : decode m_Rw_step.2.1 58 = .ok (.aload_n 0, 1) := by decide +kernel
theorem d_Rw_step_59 : decode m_Rw_step.2.1 59 = .ok (.getfield 11, 3) := by decide +kernel
theorem d_Rw_step_62 : decode m_Rw_step.2.1 62 = .ok (.iload_n 2, 1) := by decide +kernel
theorem d_Rw_step_63 : decode m_Rw_step.2.1 63 = .ok (.aaload, 1) := by decide +kernel
theorem d_Rw_step_64 : decode m_Rw_step.2.1 64 = .ok (.iload_n 1, 1) := by decide +kernel
theorem d_Rw_step_65 : decode m_Rw_step.2.1 65 = .ok (.invokevirtual 80, 3) := by decide +kernel
theorem d_Rw_step_68 : decode m_Rw_step.2.1 68 = .ok (.iconst 1, 1) := by decide +kernel
theorem d_Rw_step_69 : decode m_Rw_step.2.1 69 = .ok (.ireturn, 1) := by decide +kernel
theorem d_Rw_step_70 : decode m_Rw_step.2.1 70 = .ok (.iinc 1 1, 3) := by decide +kernel
theorem d_Rw_step_73 : decode m_Rw_step.2.1 73 = .ok (.goto (-71), 3) := by decide +kernel
theorem d_Rw_step_76 : decode m_Rw_step.2.1 76 = .ok (.iconst 0, 1) := by decide +kernel
theorem d_Rw_step_77 : decode m_Rw_step.2.1 77 = .ok (.ireturn, 1) := by decide +kernel
theorem d_Rw_doLambda_0 : decode m_Rw_doLambda.2.1 0 = .ok (.aload_n 0, 1) := by decide +kernel
theorem d_Rw_doLambda_1 : decode m_Rw_doLambda.2.1 1 = .ok (.getfield 24, 3) := by decide +kernel
theorem d_Rw_doLambda_4 : decode m_Rw_doLambda.2.1 4 = .ok (.iload_n 1, 1) := by decide +kernel
theorem d_Rw_doLambda_5 : decode m_Rw_doLambda.2.1 5 = .ok (.iconst 2, 1) := by decide +kernel
theorem d_Rw_doLambda_6 : decode m_Rw_doLambda.2.1 6 = .ok (.iadd, 1) := by decide +kernel
theorem d_Rw_doLambda_7 : decode m_Rw_doLambda.2.1 7 = .ok (.invokevirtual 84, 3) := by decide +kernel
theorem d_Rw_doLambda_10 : decode m_Rw_doLambda.2.1 10 = .ok (.istore_n 2, 1) := by decide +kernel
theorem d_Rw_doLambda_11 : decode m_Rw_doLambda.2.1 11 = .ok (.aload_n 0, 1) := by decide +kernel
theorem d_Rw_doLambda_12 : decode m_Rw_doLambda.2.1 12 = .ok (.getfield 24, 3) := by decide +kernel
theorem d_Rw_doLambda_15 : decode m_Rw_doLambda.2.1 15 = .ok (.iload_n 2, 1) := by decide +kernel
theorem d_Rw_doLambda_16 : decode m_Rw_doLambda.2.1 16 = .ok (.invokevirtual 84, 3) := by decide +kernel
theorem d_Rw_doLambda_19 : decode m_Rw_doLambda.2.1 19 = .ok (.istore_n 3, 1) := by decide +kernel
theorem d_Rw_doLambda_20 : decode m_Rw_doLambda.2.1 20 = .ok (.aload_n 0, 1) := by decide +kernel
theorem d_Rw_doLambda_21 : decode m_Rw_doLambda.2.1 21 = .ok (.getfield 28, 3) := by decide +kernel
theorem d_Rw_doLambda_24 : decode m_Rw_doLambda.2.1 24 = .ok (.invokevirtual 87, 3) := by decide +kernel
theorem d_Rw_doLambda_27 : decode m_Rw_doLambda.2.1 27 = .ok (.aload_n 0, 1) := by decide +kernel
theorem d_Rw_doLambda_28 : decode m_Rw_doLambda.2.1 28 = .ok (.getfield 28, 3) := by decide +kernel
theorem d_Rw_doLambda_31 : decode m_Rw_doLambda.2.1 31 = .ok (.aload_n 0, 1) := by decide +kernel
theorem d_Rw_doLambda_32 : decode m_Rw_doLambda.2.1 32 = .ok (.getfield 24, 3) := by decide +kernel
theorem d_Rw_doLambda_35 : decode m_Rw_doLambda.2.1 35 = .ok (.iconst 0, 1) := by decide +kernel
theorem d_Rw_doLambda_36 : decode m_Rw_doLambda.2.1 36 = .ok (.iload_n 1, 1) := by decide +kernel
theorem d_Rw_doLambda_37 : decode m_Rw_doLambda.2.1 37 = .ok (.invokevirtual 90, 3) := by decide +kernel
theorem d_Rw_doLambda_40 : decode m_Rw_doLambda.2.1 40 = .ok (.aload_n 0, 1) := by decide +kernel
theorem d_Rw_doLambda_41 : decode m_Rw_doLambda.2.1 41 = .ok (.aload_n 0, 1) := by decide +kernel
theorem d_Rw_doLambda_42 : decode m_Rw_doLambda.2.1 42 = .ok (.getfield 24, 3) := by decide +kernel
theorem d_Rw_doLambda_45 : decode m_Rw_doLambda.2.1 45 = .ok (.iload_n 3, 1) := by decide +kernel
theorem d_Rw_doLambda_46 : decode m_Rw_doLambda.2.1 46 = .ok (.aload_n 0, 1) := by decide +kernel
theorem d_Rw_doLambda_47 : decode m_Rw_doLambda.2.1 47 = .ok (.getfield 24, 3) := by decide +kernel
theorem d_Rw_doLambda_50 : decode m_Rw_doLambda.2.1 50 = .ok (.iload_n 2, 1) := by decide +kernel
theorem d_Rw_doLambda_51 : decode m_Rw_doLambda.2.1 51 = .ok (.aload_n 0, 1) := by decide +kernel
theorem d_Rw_doLambda_52 : decode m_Rw_doLambda.2.1 52 = .ok (.getfield 28, 3) := by decide +kernel
theorem d_Rw_doLambda_55 : decode m_Rw_doLambda.2.1 55 = .ok (.invokevirtual 94, 3) := by decide +kernel
theorem d_Rw_doLambda_58 : decode m_Rw_doLambda.2.1 58 = .ok (.aload_n 0, 1) := by decide +kernel
theorem d_Rw_doLambda_59 : decode m_Rw_doLambda.2.1 59 = .ok (.getfield 28, 3) := by decide +kernel
theorem d_Rw_doLambda_62 : decode m_Rw_doLambda.2.1 62 = .ok (.aload_n 0, 1) := by decide +kernel
theorem d_Rw_doLambda_63 : decode m_Rw_doLambda.2.1 63 = .ok (.getfield 24, 3) := by decide +kernel
theorem d_Rw_doLambda_66 : decode m_Rw_doLambda.2.1 66 = .ok (.aload_n 0, 1) := by decide +kernel
theorem d_Rw_doLambda_67 : decode m_Rw_doLambda.2.1 67 = .ok (.getfield 24, 3) := by decide +kernel
theorem d_Rw_doLambda_70 : decode m_Rw_doLambda.2.1 70 = .ok (.iload_n 3, 1) := by decide +kernel
theorem d_Rw_doLambda_71 : decode m_Rw_doLambda.2.1 71 = .ok (.invokevirtual 84, 3) := by decide +kernel
theorem d_Rw_doLambda_74 : decode m_Rw_doLambda.2.1 74 = .ok (.aload_n 0, 1) := by decide +kernel
theorem d_Rw_doLambda_75 : decode m_Rw_doLambda.2.1 75 = .ok (.getfield 24, 3) := by decide +kernel
theorem d_Rw_doLambda_78 : decode m_Rw_doLambda.2.1 78 = .ok (.getfield 66, 3) := by decide +kernel
theorem d_Rw_doLambda_81 : decode m_Rw_doLambda.2.1 81 = .ok (.invokevirtual 90, 3) := by decide +kernel
theorem d_Rw_doLambda_84 : decode m_Rw_doLambda.2.1 84 = .ok (.aload_n 0, 1) := by decide +kernel
theorem d_Rw_doLambda_85 : decode m_Rw_doLambda.2.1 85 = .ok (.invokevirtual 98, 3) := by decide +kernel
theorem d_Rw_doLambda_88 : decode m_Rw_doLambda.2.1 88 = .ok (.return_, 1) := by decide +kernel
theorem d_Rw_doRule_0 : decode m_Rw_doRule.2.1 0 = .ok (.aload_n 0, 1) := by decide +kernel
theorem d_Rw_doRule_1 : decode m_Rw_doRule.2.1 1 = .ok (.getfield 28, 3) := by decide +kernel
theorem d_Rw_doRule_4 : decode m_Rw_doRule.2.1 4 = .ok (.invokevirtual 87, 3) := by decide +kernel
theorem d_Rw_doRule_7 : decode m_Rw_doRule.2.1 7 = .ok (.aload_n 0, 1) := by decide +kernel
theorem d_Rw_doRule_8 : decode m_Rw_doRule.2.1 8 = .ok (.getfield 28, 3) := by decide +kernel
theorem d_Rw_doRule_11 : decode m_Rw_doRule.2.1 11 = .ok (.aload_n 0, 1) := by decide +kernel
theorem d_Rw_doRule_12 : decode m_Rw_doRule.2.1 12 = .ok (.getfield 24, 3) := by decide +kernel
theorem d_Rw_doRule_15 : decode m_Rw_doRule.2.1 15 = .ok (.iconst 0, 1) := by decide +kernel
theorem d_Rw_doRule_16 : decode m_Rw_doRule.2.1 16 = .ok (.iload_n 2, 1) := by decide +kernel
theorem d_Rw_doRule_17 : decode m_Rw_doRule.2.1 17 = .ok (.invokevirtual 90, 3) := by decide +kernel
theorem d_Rw_doRule_20 : decode m_Rw_doRule.2.1 20 = .ok (.aload_n 0, 1) := by decide +kernel
theorem d_Rw_doRule_21 : decode m_Rw_doRule.2.1 21 = .ok (.getfield 38, 3) := by decide +kernel
theorem d_Rw_doRule_24 : decode m_Rw_doRule.2.1 24 = .ok (.invokevirtual 101, 3) := by decide +kernel
theorem d_Rw_doRule_27 : decode m_Rw_doRule.2.1 27 = .ok (.iconst 0, 1) := by decide +kernel
theorem d_Rw_doRule_28 : decode m_Rw_doRule.2.1 28 = .ok (.istore_n 3, 1) := by decide +kernel
theorem d_Rw_doRule_29 : decode m_Rw_doRule.2.1 29 = .ok (.iload_n 3, 1) := by decide +kernel
theorem d_Rw_doRule_30 : decode m_Rw_doRule.2.1 30 = .ok (.aload_n 1, 1) := by decide +kernel
theorem d_Rw_doRule_31 : decode m_Rw_doRule.2.1 31 = .ok (.getfield 53, 3) := by decide +kernel
theorem d_Rw_doRule_34 : decode m_Rw_doRule.2.1 34 = .ok (.getfield 66, 3) := by decide +kernel
theorem d_Rw_doRule_37 : decode m_Rw_doRule.2.1 37 = .ok (.if_icmp .ge 97, 3) := by decide +kernel
theorem d_Rw_doRule_40 : decode m_Rw_doRule.2.1 40 = .ok (.aload_n 0, 1) := by decide +kernel
theorem d_Rw_doRule_41 : decode m_Rw_doRule.2.1 41 = .ok (.getfield 38, 3) := by decide +kernel
theorem d_Rw_doRule_44 : decode m_Rw_doRule.2.1 44 = .ok (.invokevirtual 104, 3) := by decide +kernel
theorem d_Rw_doRule_47 : decode m_Rw_doRule.2.1 47 = .ok (.ifCond .eq 87, 3) := by decide +kernel
theorem d_Rw_doRule_50 : decode m_Rw_doRule.2.1 50 = .ok (.aload_n 1, 1) := by decide +kernel
theorem d_Rw_doRule_51 : decode m_Rw_doRule.2.1 51 = .ok (.getfield 53, 3) := by decide +kernel
theorem d_Rw_doRule_54 : decode m_Rw_doRule.2.1 54 = .ok (.iload_n 3, 1) := by decide +kernel
theorem d_Rw_doRule_55 : decode m_Rw_doRule.2.1 55 = .ok (.invokevirtual 69, 3) := by decide +kernel
theorem d_Rw_doRule_58 : decode m_Rw_doRule.2.1 58 = .ok (.istore 4, 2) := by decide +kernel
theorem d_Rw_doRule_60 : decode m_Rw_doRule.2.1 60 = .ok (.aload_n 0, 1) := by decide +kernel
theorem d_Rw_doRule_61 : decode m_Rw_doRule.2.1 61 = .ok (.getfield 38, 3) := by decide +kernel
theorem d_Rw_doRule_64 : decode m_Rw_doRule.2.1 64 = .ok (.iload 4, 2) := by decide +kernel
theorem d_Rw_doRule_66 : decode m_Rw_doRule.2.1 66 = .ok (.invokevirtual 107, 3) := by decide +kernel
theorem d_Rw_doRule_69 : decode m_Rw_doRule.2.1 69 = .ok (.istore 5, 2) := by decide +kernel
theorem d_Rw_doRule_71 : decode m_Rw_doRule.2.1 71 = .ok (.iload 4, 2) := by decide +kernel
theorem d_Rw_doRule_73 : decode m_Rw_doRule.2.1 73 = .ok (.bipush 100, 2) := by decide +kernel
theorem d_Rw_doRule_75 : decode m_Rw_doRule.2.1 75 = .ok (.isub, 1) := by decide +kernel
theorem d_Rw_doRule_76 : decode m_Rw_doRule.2.1 76 = .ok (.iload 5, 2) := by decide +kernel
theorem d_Rw_doRule_78 : decode m_Rw_doRule.2.1 78 = .ok (.isub, 1) := by decide +kernel
theorem d_Rw_doRule_79 : decode m_Rw_doRule.2.1 79 = .ok (.istore 6, 2) := by decide +kernel
theorem d_Rw_doRule_81 : decode m_Rw_doRule.2.1 81 = .ok (.iload 6, 2) := by decide +kernel
theorem d_Rw_doRule_83 : decode m_Rw_doRule.2.1 83 = .ok (.ifCond .lt 36, 3) := by decide +kernel
theorem d_Rw_doRule_86 : decode m_Rw_doRule.2.1 86 = .ok (.iload 6, 2) := by decide +kernel
theorem d_Rw_doRule_88 : decode m_Rw_doRule.2.1 88 = .ok (.aload_n 1, 1) := by decide +kernel
theorem d_Rw_doRule_89 : decode m_Rw_doRule.2.1 89 = .ok (.getfield 56, 3) := by decide +kernel
theorem d_Rw_doRule_92 : decode m_Rw_doRule.2.1 92 = .ok (.if_icmp .ge 27, 3) := by decide +kernel
theorem d_Rw_doRule_95 : decode m_Rw_doRule.2.1 95 = .ok (.aload_n 0, 1) := by decide +kernel
theorem d_Rw_doRule_96 : decode m_Rw_doRule.2.1 96 = .ok (.aload_n 0, 1) := by decide +kernel
theorem d_Rw_doRule_97 : decode m_Rw_doRule.2.1 97 = .ok (.getfield 24, 3) := by decide +kernel
theorem d_Rw_doRule_100 : decode m_Rw_doRule.2.1 100 = .ok (.aload_n 0, 1) := by decide +kernel
theorem d_Rw_doRule_101 : decode m_Rw_doRule.2.1 101 = .ok (.getfield 31, 3) := by decide +kernel
theorem d_Rw_doRule_104 : decode m_Rw_doRule.2.1 104 = .ok (.iload 6, 2) := by decide +kernel
theorem d_Rw_doRule_106 : decode m_Rw_doRule.2.1 106 = .ok (.iaload, 1) := by decide +kernel
theorem d_Rw_doRule_107 : decode m_Rw_doRule.2.1 107 = .ok (.iload 5, 2) := by decide +kernel
theorem d_Rw_doRule_109 : decode m_Rw_doRule.2.1 109 = .ok (.aload_n 0, 1) := by decide +kernel
theorem d_Rw_doRule_110 : decode m_Rw_doRule.2.1 110 = .ok (.getfield 28, 3) := by decide +kernel
theorem d_Rw_doRule_113 : decode m_Rw_doRule.2.1 113 = .ok (.invokevirtual 110, 3) := by decide +kernel
theorem d_Rw_doRule_116 : decode m_Rw_doRule.2.1 116 = .ok (.goto 12, 3) := by decide +kernel
theorem d_Rw_doRule_119 : decode m_Rw_doRule.2.1 119 = .ok (.aload_n 0, 1) := by decide +kernel
theorem d_Rw_doRule_120 : decode m_Rw_doRule.2.1 120 = .ok (.getfield 28, 3) := by decide +kernel
theorem d_Rw_doRule_123 : decode m_Rw_doRule.2.1 123 = .ok (.iload 4, 2) := by decide +kernel
theorem d_Rw_doRule_125 : decode m_Rw_doRule.2.1 125 = .ok (.invokevirtual 114, 3) := by decide +kernel
theorem d_Rw_doRule_128 : decode m_Rw_doRule.2.1 128 = .ok (.iinc 3 1, 3) := by decide +kernel
theorem d_Rw_doRule_131 : decode m_Rw_doRule.2.1 131 = .ok (.goto (-102), 3) := by decide +kernel
theorem d_Rw_doRule_134 : decode m_Rw_doRule.2.1 134 = .ok (.aload_n 0, 1) := by decide +kernel
theorem d_Rw_doRule_135 : decode m_Rw_doRule.2.1 135 = .ok (.getfield 28, 3) := by decide +kernel
theorem d_Rw_doRule_138 : decode m_Rw_doRule.2.1 138 = .ok (.aload_n 0, 1) := by decide +kernel
theorem d_Rw_doRule_139 : decode m_Rw_doRule.2.1 139 = .ok (.getfield 24, 3) := by decide +kernel
theorem d_Rw_doRule_142 : decode m_Rw_doRule.2.1 142 = .ok (.aload_n 0, 1) := by decide +kernel
theorem d_Rw_doRule_143 : decode m_Rw_doRule.2.1 143 = .ok (.getfield 24, 3) := by decide +kernel
theorem d_Rw_doRule_146 : decode m_Rw_doRule.2.1 146 = .ok (.iload_n 2, 1) := by decide +kernel
theorem d_Rw_doRule_147 : decode m_Rw_doRule.2.1 147 = .ok (.invokevirtual 84, 3) := by decide +kernel
theorem d_Rw_doRule_150 : decode m_Rw_doRule.2.1 150 = .ok (.aload_n 0, 1) := by decide +kernel
theorem d_Rw_doRule_151 : decode m_Rw_doRule.2.1 151 = .ok (.getfield 24, 3) := by decide +kernel
theorem d_Rw_doRule_154 : decode m_Rw_doRule.2.1 154 = .ok (.getfield 66, 3) := by decide +kernel
theorem d_Rw_doRule_157 : decode m_Rw_doRule.2.1 157 = .ok (.invokevirtual 90, 3) := by decide +kernel
theorem d_Rw_doRule_160 : decode m_Rw_doRule.2.1 160 = .ok (.aload_n 0, 1) := by decide +kernel
theorem d_Rw_doRule_161 : decode m_Rw_doRule.2.1 161 = .ok (.invokevirtual 98, 3) := by decide +kernel
theorem d_Rw_doRule_164 : decode m_Rw_doRule.2.1 164 = .ok (.return_, 1) := by decide +kernel
theorem d_Rw_takeNext_0 : decode m_Rw_takeNext.2.1 0 = .ok (.aload_n 0, 1) := by decide +kernel
theorem d_Rw_takeNext_1 : decode m_Rw_takeNext.2.1 1 = .ok (.getfield 24, 3) := by decide +kernel
theorem d_Rw_takeNext_4 : decode m_Rw_takeNext.2.1 4 = .ok (.astore_n 1, 1) := by decide +kernel
theorem d_Rw_takeNext_5 : decode m_Rw_takeNext.2.1 5 = .ok (.aload_n 0, 1) := by decide +kernel
theorem d_Rw_takeNext_6 : decode m_Rw_takeNext.2.1 6 = .ok (.aload_n 0, 1) := by decide +kernel
theorem d_Rw_takeNext_7 : decode m_Rw_takeNext.2.1 7 = .ok (.getfield 28, 3) := by decide +kernel
theorem d_Rw_takeNext_10 : decode m_Rw_takeNext.2.1 10 = .ok (.putfield 24, 3) := by decide +kernel
theorem d_Rw_takeNext_13 : decode m_Rw_takeNext.2.1 13 = .ok (.aload_n 0, 1) := by decide +kernel
theorem d_Rw_takeNext_14 : decode m_Rw_takeNext.2.1 14 = .ok (.aload_n 1, 1) := by decide +kernel
theorem d_Rw_takeNext_15 : decode m_Rw_takeNext.2.1 15 = .ok (.putfield 28, 3) := by decide +kernel
theorem d_Rw_takeNext_18 : decode m_Rw_takeNext.2.1 18 = .ok (.return_, 1) := by decide +kernel
theorem d_Rw_firstMatch_0 : decode m_Rw_firstMatch.2.1 0 = .ok (.iconst 0, 1) := by decide +kernel
theorem d_Rw_firstMatch_1 : decode m_Rw_firstMatch.2.1 1 = .ok (.istore_n 2, 1) := by decide +kernel
theorem d_Rw_firstMatch_2 : decode m_Rw_firstMatch.2.1 2 = .ok (.iload_n 2, 1) := by decide +kernel
theorem d_Rw_firstMatch_3 : decode m_Rw_firstMatch.2.1 3 = .ok (.aload_n 0, 1) := by decide +kernel
theorem d_Rw_firstMatch_4 : decode m_Rw_firstMatch.2.1 4 = .ok (.getfield 17, 3) := by decide +kernel
theorem d_Rw_firstMatch_7 : decode m_Rw_firstMatch.2.1 7 = .ok (.if_icmp .ge 25, 3) := by decide +kernel
theorem d_Rw_firstMatch_10 : decode m_Rw_firstMatch.2.1 10 = .ok (.aload_n 0, 1) := by decide +kernel
theorem d_Rw_firstMatch_11 : decode m_Rw_firstMatch.2.1 11 = .ok (.aload_n 0, 1) := by decide +kernel
theorem d_Rw_firstMatch_12 : decode m_Rw_firstMatch.2.1 12 = .ok (.getfield 11, 3) := by decide +kernel
theorem d_Rw_firstMatch_15 : decode m_Rw_firstMatch.2.1 15 = .ok (.iload_n 2, 1) := by decide +kernel
theorem d_Rw_firstMatch_16 : decode m_Rw_firstMatch.2.1 16 = .ok (.aaload, 1) := by decide +kernel
theorem d_Rw_firstMatch_17 : decode m_Rw_firstMatch.2.1 17 = .ok (.iload_n 1, 1) := by decide +kernel
theorem d_Rw_firstMatch_18 : decode m_Rw_firstMatch.2.1 18 = .ok (.invokevirtual 117, 3) := by decide +kernel
theorem d_Rw_firstMatch_21 : decode m_Rw_firstMatch.2.1 21 = .ok (.ifCond .eq 5, 3) := by decide +kernel
theorem d_Rw_firstMatch_24 : decode m_Rw_firstMatch.2.1 24 = .ok (.iload_n 2, 1) := by decide +kernel
theorem d_Rw_firstMatch_25 : decode m_Rw_firstMatch.2.1 25 = .ok (.ireturn, 1) := by decide +kernel
theorem d_Rw_firstMatch_26 : decode m_Rw_firstMatch.2.1 26 = .ok (.iinc 2 1, 3) := by decide +kernel
theorem d_Rw_firstMatch_29 : decode m_Rw_firstMatch.2.1 29 = .ok (.goto (-27), 3) := by decide +kernel
theorem d_Rw_firstMatch_32 : decode m_Rw_firstMatch.2.1 32 = .ok (.iconst (-1), 1) := by decide +kernel
theorem d_Rw_firstMatch_33 : decode m_Rw_firstMatch.2.1 33 = .ok (.ireturn, 1) := by decide +kernel
theorem d_Rw_matches_0 : decode m_Rw_matches.2.1 0 = .ok (.iload_n 2, 1) := by decide +kernel
theorem d_Rw_matches_1 : decode m_Rw_matches.2.1 1 = .ok (.istore_n 3, 1) := by decide +kernel
theorem d_Rw_matches_2 : decode m_Rw_matches.2.1 2 = .ok (.iconst 0, 1) := by decide +kernel
theorem d_Rw_matches_3 : decode m_Rw_matches.2.1 3 = .ok (.istore 4, 2) := by decide +kernel
theorem d_Rw_matches_5 : decode m_Rw_matches.2.1 5 = .ok (.iload 4, 2) := by decide +kernel
theorem d_Rw_matches_7 : decode m_Rw_matches.2.1 7 = .ok (.aload_n 1, 1) := by decide +kernel
theorem d_Rw_matches_8 : decode m_Rw_matches.2.1 8 = .ok (.getfield 46, 3) := by decide +kernel
theorem d_Rw_matches_11 : decode m_Rw_matches.2.1 11 = .ok (.getfield 66, 3) := by decide +kernel
theorem d_Rw_matches_14 : decode m_Rw_matches.2.1 14 = .ok (.if_icmp .ge 82, 3) := by decide +kernel
theorem d_Rw_matches_17 : decode m_Rw_matches.2.1 17 = .ok (.aload_n 1, 1) := by decide +kernel
theorem d_Rw_matches_18 : decode m_Rw_matches.2.1 18 = .ok (.getfield 46, 3) := by decide +kernel
theorem d_Rw_matches_21 : decode m_Rw_matches.2.1 21 = .ok (.iload 4, 2) := by decide +kernel
theorem d_Rw_matches_23 : decode m_Rw_matches.2.1 23 = .ok (.invokevirtual 69, 3) := by decide +kernel
theorem d_Rw_matches_26 : decode m_Rw_matches.2.1 26 = .ok (.istore 5, 2) := by decide +kernel
theorem d_Rw_matches_28 : decode m_Rw_matches.2.1 28 = .ok (.iload 5, 2) := by decide +kernel
theorem d_Rw_matches_30 : decode m_Rw_matches.2.1 30 = .ok (.bipush 100, 2) := by decide +kernel
theorem d_Rw_matches_32 : decode m_Rw_matches.2.1 32 = .ok (.isub, 1) := by decide +kernel
theorem d_Rw_matches_33 : decode m_Rw_matches.2.1 33 = .ok (.istore 6, 2) := by decide +kernel
theorem d_Rw_matches_35 : decode m_Rw_matches.2.1 35 = .ok (.iload 6, 2) := by decide +kernel
theorem d_Rw_matches_37 : decode m_Rw_matches.2.1 37 = .ok (.ifCond .lt 32, 3) := by decide +kernel
theorem d_Rw_matches_40 : decode m_Rw_matches.2.1 40 = .ok (.iload 6, 2) := by decide +kernel
theorem d_Rw_matches_42 : decode m_Rw_matches.2.1 42 = .ok (.aload_n 1, 1) := by decide +kernel
theorem d_Rw_matches_43 : decode m_Rw_matches.2.1 43 = .ok (.getfield 56, 3) := by decide +kernel
theorem d_Rw_matches_46 : decode m_Rw_matches.2.1 46 = .ok (.if_icmp .ge 23, 3) := by decide +kernel
theorem d_Rw_matches_49 : decode m_Rw_matches.2.1 49 = .ok (.aload_n 0, 1) := by decide +kernel
theorem d_Rw_matches_50 : decode m_Rw_matches.2.1 50 = .ok (.getfield 31, 3) := by decide +kernel
theorem d_Rw_matches_53 : decode m_Rw_matches.2.1 53 = .ok (.iload 6, 2) := by decide +kernel
theorem d_Rw_matches_55 : decode m_Rw_matches.2.1 55 = .ok (.iload_n 3, 1) := by decide +kernel
theorem d_Rw_matches_56 : decode m_Rw_matches.2.1 56 = .ok (.iastore, 1) := by decide +kernel
theorem d_Rw_matches_57 : decode m_Rw_matches.2.1 57 = .ok (.aload_n 0, 1) := by decide +kernel
theorem d_Rw_matches_58 : decode m_Rw_matches.2.1 58 = .ok (.getfield 24, 3) := by decide +kernel
theorem d_Rw_matches_61 : decode m_Rw_matches.2.1 61 = .ok (.iload_n 3, 1) := by decide +kernel
theorem d_Rw_matches_62 : decode m_Rw_matches.2.1 62 = .ok (.invokevirtual 84, 3) := by decide +kernel
theorem d_Rw_matches_65 : decode m_Rw_matches.2.1 65 = .ok (.istore_n 3, 1) := by decide +kernel
theorem d_Rw_matches_66 : decode m_Rw_matches.2.1 66 = .ok (.goto 24, 3) := by decide +kernel
theorem d_Rw_matches_69 : decode m_Rw_matches.2.1 69 = .ok (.aload_n 0, 1) := by decide +kernel
theorem d_Rw_matches_70 : decode m_Rw_matches.2.1 70 = .ok (.getfield 24, 3) := by decide +kernel
theorem d_Rw_matches_73 : decode m_Rw_matches.2.1 73 = .ok (.iload_n 3, 1) := by decide +kernel
theorem d_Rw_matches_74 : decode m_Rw_matches.2.1 74 = .ok (.invokevirtual 69, 3) := by decide +kernel
theorem d_Rw_matches_77 : decode m_Rw_matches.2.1 77 = .ok (.iload 5, 2) := by decide +kernel
theorem d_Rw_matches_79 : decode m_Rw_matches.2.1 79 = .ok (.if_icmp .ne 9, 3) := by decide +kernel
theorem d_Rw_matches_82 : decode m_Rw_matches.2.1 82 = .ok (.iinc 3 1, 3) := by decide +kernel
theorem d_Rw_matches_85 : decode m_Rw_matches.2.1 85 = .ok (.goto 5, 3) := by decide +kernel
theorem d_Rw_matches_88 : decode m_Rw_matches.2.1 88 = .ok (.iconst 0, 1) := by decide +kernel
theorem d_Rw_matches_89 : decode m_Rw_matches.2.1 89 = .ok (.ireturn, 1) := by decide +kernel
theorem d_Rw_matches_90 : decode m_Rw_matches.2.1 90 = .ok (.iinc 4 1, 3) := by decide +kernel
theorem d_Rw_matches_93 : decode m_Rw_matches.2.1 93 = .ok (.goto (-88), 3) := by decide +kernel
theorem d_Rw_matches_96 : decode m_Rw_matches.2.1 96 = .ok (.iconst 1, 1) := by decide +kernel
theorem d_Rw_matches_97 : decode m_Rw_matches.2.1 97 = .ok (.ireturn, 1) := by decide +kernel
theorem d_Rw_appendBodyWith_0 : decode m_Rw_appendBodyWith.2.1 0 = .ok (.aload_n 0, 1) := by decide +kernel
theorem d_Rw_appendBodyWith_1 : decode m_Rw_appendBodyWith.2.1 1 = .ok (.getfield 38, 3) := by decide +kernel
theorem d_Rw_appendBodyWith_4 : decode m_Rw_appendBodyWith.2.1 4 = .ok (.invokevirtual 101, 3) := by decide +kernel
theorem d_Rw_appendBodyWith_7 : decode m_Rw_appendBodyWith.2.1 7 = .ok (.iload 4, 2) := by decide +kernel
theorem d_Rw_appendBodyWith_9 : decode m_Rw_appendBodyWith.2.1 9 = .ok (.istore 6, 2) := by decide +kernel
theorem d_Rw_appendBodyWith_11 : decode m_Rw_appendBodyWith.2.1 11 = .ok (.iload 6, 2) := by decide +kernel
theorem d_Rw_appendBodyWith_13 : decode m_Rw_appendBodyWith.2.1 13 = .ok (.aload_n 3, 1) := by decide +kernel
theorem d_Rw_appendBodyWith_14 : decode m_Rw_appendBodyWith.2.1 14 = .ok (.getfield 66, 3) := by decide +kernel
theorem d_Rw_appendBodyWith_17 : decode m_Rw_appendBodyWith.2.1 17 = .ok (.if_icmp .ge 85, 3) := by decide +kernel
theorem d_Rw_appendBodyWith_20 : decode m_Rw_appendBodyWith.2.1 20 = .ok (.aload_n 0, 1) := by decide +kernel
theorem d_Rw_appendBodyWith_21 : decode m_Rw_appendBodyWith.2.1 21 = .ok (.getfield 38, 3) := by decide +kernel
theorem d_Rw_appendBodyWith_24 : decode m_Rw_appendBodyWith.2.1 24 = .ok (.invokevirtual 104, 3) := by decide +kernel
theorem d_Rw_appendBodyWith_27 : decode m_Rw_appendBodyWith.2.1 27 = .ok (.ifCond .eq 75, 3) := by decide +kernel
theorem d_Rw_appendBodyWith_30 : decode m_Rw_appendBodyWith.2.1 30 = .ok (.aload_n 3, 1) := by decide +kernel
theorem d_Rw_appendBodyWith_31 : decode m_Rw_appendBodyWith.2.1 31 = .ok (.iload 6, 2) := by decide +kernel
theorem d_Rw_appendBodyWith_33 : decode m_Rw_appendBodyWith.2.1 33 = .ok (.invokevirtual 69, 3) := by decide +kernel
theorem d_Rw_appendBodyWith_36 : decode m_Rw_appendBodyWith.2.1 36 = .ok (.istore 7, 2) := by decide +kernel
theorem d_Rw_appendBodyWith_38 : decode m_Rw_appendBodyWith.2.1 38 = .ok (.aload_n 0, 1) := by decide +kernel
theorem d_Rw_appendBodyWith_39 : decode m_Rw_appendBodyWith.2.1 39 = .ok (.getfield 38, 3) := by decide +kernel
theorem d_Rw_appendBodyWith_42 : decode m_Rw_appendBodyWith.2.1 42 = .ok (.iload 7, 2) := by decide +kernel
theorem d_Rw_appendBodyWith_44 : decode m_Rw_appendBodyWith.2.1 44 = .ok (.invokevirtual 107, 3) := by decide +kernel
theorem d_Rw_appendBodyWith_47 : decode m_Rw_appendBodyWith.2.1 47 = .ok (.istore 8, 2) := by decide +kernel
theorem d_Rw_appendBodyWith_49 : decode m_Rw_appendBodyWith.2.1 49 = .ok (.iload 7, 2) := by decide +kernel
theorem d_Rw_appendBodyWith_51 : decode m_Rw_appendBodyWith.2.1 51 = .ok (.bipush 100, 2) := by decide +kernel
theorem d_Rw_appendBodyWith_53 : decode m_Rw_appendBodyWith.2.1 53 = .ok (.iload 8, 2) := by decide +kernel
theorem d_Rw_appendBodyWith_55 : decode m_Rw_appendBodyWith.2.1 55 = .ok (.iadd, 1) := by decide +kernel
theorem d_Rw_appendBodyWith_56 : decode m_Rw_appendBodyWith.2.1 56 = .ok (.if_icmp .ne 16, 3) := by decide +kernel
theorem d_Rw_appendBodyWith_59 : decode m_Rw_appendBodyWith.2.1 59 = .ok (.aload_n 0, 1) := by decide +kernel
theorem d_Rw_appendBodyWith_60 : decode m_Rw_appendBodyWith.2.1 60 = .ok (.aload_n 1, 1) := by decide +kernel
theorem d_Rw_appendBodyWith_61 : decode m_Rw_appendBodyWith.2.1 61 = .ok (.iload_n 2, 1) := by decide +kernel
theorem d_Rw_appendBodyWith_62 : decode m_Rw_appendBodyWith.2.1 62 = .ok (.iload 8, 2) := by decide +kernel
theorem d_Rw_appendBodyWith_64 : decode m_Rw_appendBodyWith.2.1 64 = .ok (.aload 5, 2) := by decide +kernel
theorem d_Rw_appendBodyWith_66 : decode m_Rw_appendBodyWith.2.1 66 = .ok (.invokevirtual 110, 3) := by decide +kernel
theorem d_Rw_appendBodyWith_69 : decode m_Rw_appendBodyWith.2.1 69 = .ok (.goto 27, 3) := by decide +kernel
theorem d_Rw_appendBodyWith_72 : decode m_Rw_appendBodyWith.2.1 72 = .ok (.aload 5, 2) := by decide +kernel
theorem d_Rw_appendBodyWith_74 : decode m_Rw_appendBodyWith.2.1 74 = .ok (.iload 7, 2) := by decide +kernel
theorem d_Rw_appendBodyWith_76 : decode m_Rw_appendBodyWith.2.1 76 = .ok (.bipush 100, 2) := by decide +kernel
theorem d_Rw_appendBodyWith_78 : decode m_Rw_appendBodyWith.2.1 78 = .ok (.iload 8, 2) := by decide +kernel
theorem d_Rw_appendBodyWith_80 : decode m_Rw_appendBodyWith.2.1 80 = .ok (.iadd, 1) := by decide +kernel
theorem d_Rw_appendBodyWith_81 : decode m_Rw_appendBodyWith.2.1 81 = .ok (.if_icmp .le 10, 3) := by decide +kernel
theorem d_Rw_appendBodyWith_84 : decode m_Rw_appendBodyWith.2.1 84 = .ok (.iload 7, 2) := by decide +kernel
theorem d_Rw_appendBodyWith_86 : decode m_Rw_appendBodyWith.2.1 86 = .ok (.iconst 1, 1) := by decide +kernel
theorem d_Rw_appendBodyWith_87 : decode m_Rw_appendBodyWith.2.1 87 = .ok (.isub, 1) := by decide +kernel
theorem d_Rw_appendBodyWith_88 : decode m_Rw_appendBodyWith.2.1 88 = .ok (.goto 5, 3) := by decide +kernel
theorem d_Rw_appendBodyWith_91 : decode m_Rw_appendBodyWith.2.1 91 = .ok (.iload 7, 2) := by decide +kernel
theorem d_Rw_appendBodyWith_93 : decode m_Rw_appendBodyWith.2.1 93 = .ok (.invokevirtual 114, 3) := by decide +kernel
theorem d_Rw_appendBodyWith_96 : decode m_Rw_appendBodyWith.2.1 96 = .ok (.iinc 6 1, 3) := by decide +kernel
theorem d_Rw_appendBodyWith_99 : decode m_Rw_appendBodyWith.2.1 99 = .ok (.goto (-88), 3) := by decide +kernel
theorem d_Rw_appendBodyWith_102 : decode m_Rw_appendBodyWith.2.1 102 = .ok (.return_, 1) := by decide +kernel
theorem d_Rw_appendLifted_0 : decode m_Rw_appendLifted.2.1 0 = .ok (.aload_n 0, 1) := by decide +kernel
theorem d_Rw_appendLifted_1 : decode m_Rw_appendLifted.2.1 1 = .ok (.getfield 42, 3) := by decide +kernel
theorem d_Rw_appendLifted_4 : decode m_Rw_appendLifted.2.1 4 = .ok (.invokevirtual 101, 3) := by decide +kernel
theorem d_Rw_appendLifted_7 : decode m_Rw_appendLifted.2.1 7 = .ok (.iload_n 2, 1) := by decide +kernel
theorem d_Rw_appendLifted_8 : decode m_Rw_appendLifted.2.1 8 = .ok (.istore 5, 2) := by decide +kernel
theorem d_Rw_appendLifted_10 : decode m_Rw_appendLifted.2.1 10 = .ok (.iload 5, 2) := by decide +kernel
theorem d_Rw_appendLifted_12 : decode m_Rw_appendLifted.2.1 12 = .ok (.aload_n 1, 1) := by decide +kernel
theorem d_Rw_appendLifted_13 : decode m_Rw_appendLifted.2.1 13 = .ok (.getfield 66, 3) := by decide +kernel
theorem d_Rw_appendLifted_16 : decode m_Rw_appendLifted.2.1 16 = .ok (.if_icmp .ge 62, 3) := by decide +kernel
theorem d_Rw_appendLifted_19 : decode m_Rw_appendLifted.2.1 19 = .ok (.aload_n 0, 1) := by decide +kernel
theorem d_Rw_appendLifted_20 : decode m_Rw_appendLifted.2.1 20 = .ok (.getfield 42, 3) := by decide +kernel
theorem d_Rw_appendLifted_23 : decode m_Rw_appendLifted.2.1 23 = .ok (.invokevirtual 104, 3) := by decide +kernel
theorem d_Rw_appendLifted_26 : decode m_Rw_appendLifted.2.1 26 = .ok (.ifCond .eq 52, 3) := by decide +kernel
theorem d_Rw_appendLifted_29 : decode m_Rw_appendLifted.2.1 29 = .ok (.aload_n 1, 1) := by decide +kernel
theorem d_Rw_appendLifted_30 : decode m_Rw_appendLifted.2.1 30 = .ok (.iload 5, 2) := by decide +kernel
theorem d_Rw_appendLifted_32 : decode m_Rw_appendLifted.2.1 32 = .ok (.invokevirtual 69, 3) := by decide +kernel
theorem d_Rw_appendLifted_35 : decode m_Rw_appendLifted.2.1 35 = .ok (.istore 6, 2) := by decide +kernel
theorem d_Rw_appendLifted_37 : decode m_Rw_appendLifted.2.1 37 = .ok (.aload_n 0, 1) := by decide +kernel
theorem d_Rw_appendLifted_38 : decode m_Rw_appendLifted.2.1 38 = .ok (.getfield 42, 3) := by decide +kernel
theorem d_Rw_appendLifted_41 : decode m_Rw_appendLifted.2.1 41 = .ok (.iload 6, 2) := by decide +kernel
theorem d_Rw_appendLifted_43 : decode m_Rw_appendLifted.2.1 43 = .ok (.invokevirtual 107, 3) := by decide +kernel
theorem d_Rw_appendLifted_46 : decode m_Rw_appendLifted.2.1 46 = .ok (.istore 7, 2) := by decide +kernel
theorem d_Rw_appendLifted_48 : decode m_Rw_appendLifted.2.1 48 = .ok (.aload 4, 2) := by decide +kernel
theorem d_Rw_appendLifted_50 : decode m_Rw_appendLifted.2.1 50 = .ok (.iload 6, 2) := by decide +kernel
theorem d_Rw_appendLifted_52 : decode m_Rw_appendLifted.2.1 52 = .ok (.bipush 100, 2) := by decide +kernel
theorem d_Rw_appendLifted_54 : decode m_Rw_appendLifted.2.1 54 = .ok (.iload 7, 2) := by decide +kernel
theorem d_Rw_appendLifted_56 : decode m_Rw_appendLifted.2.1 56 = .ok (.iadd, 1) := by decide +kernel
theorem d_Rw_appendLifted_57 : decode m_Rw_appendLifted.2.1 57 = .ok (.if_icmp .lt 10, 3) := by decide +kernel
theorem d_Rw_appendLifted_60 : decode m_Rw_appendLifted.2.1 60 = .ok (.iload 6, 2) := by decide +kernel
theorem d_Rw_appendLifted_62 : decode m_Rw_appendLifted.2.1 62 = .ok (.iload_n 3, 1) := by decide +kernel
theorem d_Rw_appendLifted_63 : decode m_Rw_appendLifted.2.1 63 = .ok (.iadd, 1) := by decide +kernel
theorem d_Rw_appendLifted_64 : decode m_Rw_appendLifted.2.1 64 = .ok (.goto 5, 3) := by decide +kernel
theorem d_Rw_appendLifted_67 : decode m_Rw_appendLifted.2.1 67 = .ok (.iload 6, 2) := by decide +kernel
theorem d_Rw_appendLifted_69 : decode m_Rw_appendLifted.2.1 69 = .ok (.invokevirtual 114, 3) := by decide +kernel
theorem d_Rw_appendLifted_72 : decode m_Rw_appendLifted.2.1 72 = .ok (.iinc 5 1, 3) := by decide +kernel
theorem d_Rw_appendLifted_75 : decode m_Rw_appendLifted.2.1 75 = .ok (.goto (-65), 3) := by decide +kernel
theorem d_Rw_appendLifted_78 : decode m_Rw_appendLifted.2.1 78 = .ok (.return_, 1) := by decide +kernel
