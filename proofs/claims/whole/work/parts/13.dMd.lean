theorem d_Md_init_0 : decode m_Md_init.2.1 0 = .ok (.aload_n 0, 1) := by decide +kernel
theorem d_Md_init_1 : decode m_Md_init.2.1 1 = .ok (.invokespecial 1, 3) := by decide +kernel
theorem d_Md_init_4 : decode m_Md_init.2.1 4 = .ok (.aload_n 0, 1) := by decide +kernel
theorem d_Md_init_5 : decode m_Md_init.2.1 5 = .ok (.sipush 1720, 3) := by decide +kernel
theorem d_Md_init_8 : decode m_Md_init.2.1 8 = .ok (.newarray .int, 2) := by decide +kernel
theorem d_Md_init_10 : decode m_Md_init.2.1 10 = .ok (.putfield 7, 3) := by decide +kernel
theorem d_Md_init_13 : decode m_Md_init.2.1 13 = .ok (.aload_n 0, 1) := by decide +kernel
theorem d_Md_init_14 : decode m_Md_init.2.1 14 = .ok (.bipush 43, 2) := by decide +kernel
theorem d_Md_init_16 : decode m_Md_init.2.1 16 = .ok (.newarray .int, 2) := by decide +kernel
theorem d_Md_init_18 : decode m_Md_init.2.1 18 = .ok (.putfield 13, 3) := by decide +kernel
theorem d_Md_init_21 : decode m_Md_init.2.1 21 = .ok (.aload_n 0, 1) := by decide +kernel
theorem d_Md_init_22 : decode m_Md_init.2.1 22 = .ok (.bipush 6, 2) := by decide +kernel
theorem d_Md_init_24 : decode m_Md_init.2.1 24 = .ok (.newarray .int, 2) := by decide +kernel
theorem d_Md_init_26 : decode m_Md_init.2.1 26 = .ok (.putfield 16, 3) := by decide +kernel
theorem d_Md_init_29 : decode m_Md_init.2.1 29 = .ok (.aload_n 0, 1) := by decide +kernel
theorem d_Md_init_30 : decode m_Md_init.2.1 30 = .ok (.bipush 8, 2) := by decide +kernel
theorem d_Md_init_32 : decode m_Md_init.2.1 32 = .ok (.newarray .boolean, 2) := by decide +kernel
theorem d_Md_init_34 : decode m_Md_init.2.1 34 = .ok (.putfield 19, 3) := by decide +kernel
theorem d_Md_init_37 : decode m_Md_init.2.1 37 = .ok (.aload_n 0, 1) := by decide +kernel
theorem d_Md_init_38 : decode m_Md_init.2.1 38 = .ok (.bipush 8, 2) := by decide +kernel
theorem d_Md_init_40 : decode m_Md_init.2.1 40 = .ok (.newarray .int, 2) := by decide +kernel
theorem d_Md_init_42 : decode m_Md_init.2.1 42 = .ok (.putfield 23, 3) := by decide +kernel
theorem d_Md_init_45 : decode m_Md_init.2.1 45 = .ok (.aload_n 0, 1) := by decide +kernel
theorem d_Md_init_46 : decode m_Md_init.2.1 46 = .ok (.bipush 40, 2) := by decide +kernel
theorem d_Md_init_48 : decode m_Md_init.2.1 48 = .ok (.newarray .int, 2) := by decide +kernel
theorem d_Md_init_50 : decode m_Md_init.2.1 50 = .ok (.putfield 26, 3) := by decide +kernel
theorem d_Md_init_53 : decode m_Md_init.2.1 53 = .ok (.aload_n 0, 1) := by decide +kernel
theorem d_Md_init_54 : decode m_Md_init.2.1 54 = .ok (.bipush 40, 2) := by decide +kernel
theorem d_Md_init_56 : decode m_Md_init.2.1 56 = .ok (.newarray .int, 2) := by decide +kernel
theorem d_Md_init_58 : decode m_Md_init.2.1 58 = .ok (.putfield 29, 3) := by decide +kernel
theorem d_Md_init_61 : decode m_Md_init.2.1 61 = .ok (.aload_n 0, 1) := by decide +kernel
theorem d_Md_init_62 : decode m_Md_init.2.1 62 = .ok (.bipush 48, 2) := by decide +kernel
theorem d_Md_init_64 : decode m_Md_init.2.1 64 = .ok (.newarray .int, 2) := by decide +kernel
theorem d_Md_init_66 : decode m_Md_init.2.1 66 = .ok (.putfield 32, 3) := by decide +kernel
theorem d_Md_init_69 : decode m_Md_init.2.1 69 = .ok (.aload_n 0, 1) := by decide +kernel
theorem d_Md_init_70 : decode m_Md_init.2.1 70 = .ok (.iconst 4, 1) := by decide +kernel
theorem d_Md_init_71 : decode m_Md_init.2.1 71 = .ok (.newarray .int, 2) := by decide +kernel
theorem d_Md_init_73 : decode m_Md_init.2.1 73 = .ok (.putfield 35, 3) := by decide +kernel
theorem d_Md_init_76 : decode m_Md_init.2.1 76 = .ok (.aload_n 0, 1) := by decide +kernel
theorem d_Md_init_77 : decode m_Md_init.2.1 77 = .ok (.iconst 4, 1) := by decide +kernel
theorem d_Md_init_78 : decode m_Md_init.2.1 78 = .ok (.newarray .int, 2) := by decide +kernel
theorem d_Md_init_80 : decode m_Md_init.2.1 80 = .ok (.putfield 38, 3) := by decide +kernel
theorem d_Md_init_83 : decode m_Md_init.2.1 83 = .ok (.return_, 1) := by decide +kernel
theorem d_Md_thrown_0 : decode m_Md_thrown.2.1 0 = .ok (.aload_n 0, 1) := by decide +kernel
theorem d_Md_thrown_1 : decode m_Md_thrown.2.1 1 = .ok (.getfield 41, 3) := by decide +kernel
theorem d_Md_thrown_4 : decode m_Md_thrown.2.1 4 = .ok (.ireturn, 1) := by decide +kernel
theorem d_Md_raise_0 : decode m_Md_raise.2.1 0 = .ok (.aload_n 0, 1) := by decide +kernel
theorem d_Md_raise_1 : decode m_Md_raise.2.1 1 = .ok (.iload_n 1, 1) := by decide +kernel
theorem d_Md_raise_2 : decode m_Md_raise.2.1 2 = .ok (.putfield 41, 3) := by decide +kernel
theorem d_Md_raise_5 : decode m_Md_raise.2.1 5 = .ok (.iconst 0, 1) := by decide +kernel
theorem d_Md_raise_6 : decode m_Md_raise.2.1 6 = .ok (.ireturn, 1) := by decide +kernel
theorem d_Md_at_0 : decode m_Md_at.2.1 0 = .ok (.aload_n 0, 1) := by decide +kernel
theorem d_Md_at_1 : decode m_Md_at.2.1 1 = .ok (.getfield 7, 3) := by decide +kernel
theorem d_Md_at_4 : decode m_Md_at.2.1 4 = .ok (.bipush 40, 2) := by decide +kernel
theorem d_Md_at_6 : decode m_Md_at.2.1 6 = .ok (.iload_n 1, 1) := by decide +kernel
theorem d_Md_at_7 : decode m_Md_at.2.1 7 = .ok (.imul, 1) := by decide +kernel
theorem d_Md_at_8 : decode m_Md_at.2.1 8 = .ok (.iload_n 2, 1) := by decide +kernel
theorem d_Md_at_9 : decode m_Md_at.2.1 9 = .ok (.iadd, 1) := by decide +kernel
theorem d_Md_at_10 : decode m_Md_at.2.1 10 = .ok (.iaload, 1) := by decide +kernel
theorem d_Md_at_11 : decode m_Md_at.2.1 11 = .ok (.ireturn, 1) := by decide +kernel
theorem d_Md_add_0 : decode m_Md_add.2.1 0 = .ok (.aload_n 0, 1) := by decide +kernel
theorem d_Md_add_1 : decode m_Md_add.2.1 1 = .ok (.getfield 13, 3) := by decide +kernel
theorem d_Md_add_4 : decode m_Md_add.2.1 4 = .ok (.iload_n 1, 1) := by decide +kernel
theorem d_Md_add_5 : decode m_Md_add.2.1 5 = .ok (.iaload, 1) := by decide +kernel
theorem d_Md_add_6 : decode m_Md_add.2.1 6 = .ok (.bipush 40, 2) := by decide +kernel
theorem d_Md_add_8 : decode m_Md_add.2.1 8 = .ok (.if_icmp .ne 9, 3) := by decide +kernel
theorem d_Md_add_11 : decode m_Md_add.2.1 11 = .ok (.aload_n 0, 1) := by decide +kernel
theorem d_Md_add_12 : decode m_Md_add.2.1 12 = .ok (.iconst 1, 1) := by decide +kernel
theorem d_Md_add_13 : decode m_Md_add.2.1 13 = .ok (.putfield 45, 3) := by decide +kernel
theorem d_Md_add_16 : decode m_Md_add.2.1 16 = .ok (.return_, 1) := by decide +kernel
theorem d_Md_add_17 : decode m_Md_add.2.1 17 = .ok (.aload_n 0, 1) := by decide +kernel
theorem d_Md_add_18 : decode m_Md_add.2.1 18 = .ok (.getfield 7, 3) := by decide +kernel
theorem d_Md_add_21 : decode m_Md_add.2.1 21 = .ok (.bipush 40, 2) := by decide +kernel
theorem d_Md_add_23 : decode m_Md_add.2.1 23 = .ok (.iload_n 1, 1) := by decide +kernel
theorem d_Md_add_24 : decode m_Md_add.2.1 24 = .ok (.imul, 1) := by decide +kernel
theorem d_Md_add_25 : decode m_Md_add.2.1 25 = .ok (.aload_n 0, 1) := by decide +kernel
theorem d_Md_add_26 : decode m_Md_add.2.1 26 = .ok (.getfield 13, 3) := by decide +kernel
theorem d_Md_add_29 : decode m_Md_add.2.1 29 = .ok (.iload_n 1, 1) := by decide +kernel
theorem d_Md_add_30 : decode m_Md_add.2.1 30 = .ok (.iaload, 1) := by decide +kernel
theorem d_Md_add_31 : decode m_Md_add.2.1 31 = .ok (.iadd, 1) := by decide +kernel
theorem d_Md_add_32 : decode m_Md_add.2.1 32 = .ok (.iload_n 2, 1) := by decide +kernel
theorem d_Md_add_33 : decode m_Md_add.2.1 33 = .ok (.iastore, 1) := by decide +kernel
theorem d_Md_add_34 : decode m_Md_add.2.1 34 = .ok (.aload_n 0, 1) := by decide +kernel
theorem d_Md_add_35 : decode m_Md_add.2.1 35 = .ok (.getfield 13, 3) := by decide +kernel
theorem d_Md_add_38 : decode m_Md_add.2.1 38 = .ok (.iload_n 1, 1) := by decide +kernel
theorem d_Md_add_39 : decode m_Md_add.2.1 39 = .ok (.dup2, 1) := by decide +kernel
theorem d_Md_add_40 : decode m_Md_add.2.1 40 = .ok (.iaload, 1) := by decide +kernel
theorem d_Md_add_41 : decode m_Md_add.2.1 41 = .ok (.iconst 1, 1) := by decide +kernel
theorem d_Md_add_42 : decode m_Md_add.2.1 42 = .ok (.iadd, 1) := by decide +kernel
theorem d_Md_add_43 : decode m_Md_add.2.1 43 = .ok (.iastore, 1) := by decide +kernel
theorem d_Md_add_44 : decode m_Md_add.2.1 44 = .ok (.return_, 1) := by decide +kernel
theorem d_Md_addRow_0 : decode m_Md_addRow.2.1 0 = .ok (.iconst 0, 1) := by decide +kernel
theorem d_Md_addRow_1 : decode m_Md_addRow.2.1 1 = .ok (.istore_n 3, 1) := by decide +kernel
theorem d_Md_addRow_2 : decode m_Md_addRow.2.1 2 = .ok (.iload_n 3, 1) := by decide +kernel
theorem d_Md_addRow_3 : decode m_Md_addRow.2.1 3 = .ok (.aload_n 0, 1) := by decide +kernel
theorem d_Md_addRow_4 : decode m_Md_addRow.2.1 4 = .ok (.getfield 13, 3) := by decide +kernel
theorem d_Md_addRow_7 : decode m_Md_addRow.2.1 7 = .ok (.iload_n 2, 1) := by decide +kernel
theorem d_Md_addRow_8 : decode m_Md_addRow.2.1 8 = .ok (.iaload, 1) := by decide +kernel
theorem d_Md_addRow_9 : decode m_Md_addRow.2.1 9 = .ok (.if_icmp .ge 20, 3) := by decide +kernel
theorem d_Md_addRow_12 : decode m_Md_addRow.2.1 12 = .ok (.aload_n 0, 1) := by decide +kernel
theorem d_Md_addRow_13 : decode m_Md_addRow.2.1 13 = .ok (.iload_n 1, 1) := by decide +kernel
theorem d_Md_addRow_14 : decode m_Md_addRow.2.1 14 = .ok (.aload_n 0, 1) := by decide +kernel
theorem d_Md_addRow_15 : decode m_Md_addRow.2.1 15 = .ok (.iload_n 2, 1) := by decide +kernel
theorem d_Md_addRow_16 : decode m_Md_addRow.2.1 16 = .ok (.iload_n 3, 1) := by decide +kernel
theorem d_Md_addRow_17 : decode m_Md_addRow.2.1 17 = .ok (.invokevirtual 49, 3) := by decide +kernel
theorem d_Md_addRow_20 : decode m_Md_addRow.2.1 20 = .ok (.invokevirtual 53, 3) := by decide +kernel
theorem d_Md_addRow_23 : decode m_Md_addRow.2.1 23 = .ok (.iinc 3 1, 3) := by decide +kernel
theorem d_Md_addRow_26 : decode m_Md_addRow.2.1 26 = .ok (.goto (-24), 3) := by decide +kernel
theorem d_Md_addRow_29 : decode m_Md_addRow.2.1 29 = .ok (.return_, 1) := by decide +kernel
theorem d_Md_copy_0 : decode m_Md_copy.2.1 0 = .ok (.aload_n 0, 1) := by decide +kernel
theorem d_Md_copy_1 : decode m_Md_copy.2.1 1 = .ok (.getfield 13, 3) := by decide +kernel
theorem d_Md_copy_4 : decode m_Md_copy.2.1 4 = .ok (.iload_n 2, 1) := by decide +kernel
theorem d_Md_copy_5 : decode m_Md_copy.2.1 5 = .ok (.iconst 0, 1) := by decide +kernel
theorem d_Md_copy_6 : decode m_Md_copy.2.1 6 = .ok (.iastore, 1) := by decide +kernel
theorem d_Md_copy_7 : decode m_Md_copy.2.1 7 = .ok (.aload_n 0, 1) := by decide +kernel
theorem d_Md_copy_8 : decode m_Md_copy.2.1 8 = .ok (.iload_n 2, 1) := by decide +kernel
theorem d_Md_copy_9 : decode m_Md_copy.2.1 9 = .ok (.iload_n 1, 1) := by decide +kernel
theorem d_Md_copy_10 : decode m_Md_copy.2.1 10 = .ok (.invokevirtual 57, 3) := by decide +kernel
theorem d_Md_copy_13 : decode m_Md_copy.2.1 13 = .ok (.return_, 1) := by decide +kernel
theorem d_Md_equal_0 : decode m_Md_equal.2.1 0 = .ok (.aload_n 0, 1) := by decide +kernel
theorem d_Md_equal_1 : decode m_Md_equal.2.1 1 = .ok (.getfield 13, 3) := by decide +kernel
theorem d_Md_equal_4 : decode m_Md_equal.2.1 4 = .ok (.iload_n 1, 1) := by decide +kernel
theorem d_Md_equal_5 : decode m_Md_equal.2.1 5 = .ok (.iaload, 1) := by decide +kernel
theorem d_Md_equal_6 : decode m_Md_equal.2.1 6 = .ok (.aload_n 0, 1) := by decide +kernel
theorem d_Md_equal_7 : decode m_Md_equal.2.1 7 = .ok (.getfield 13, 3) := by decide +kernel
theorem d_Md_equal_10 : decode m_Md_equal.2.1 10 = .ok (.iload_n 2, 1) := by decide +kernel
theorem d_Md_equal_11 : decode m_Md_equal.2.1 11 = .ok (.iaload, 1) := by decide +kernel
theorem d_Md_equal_12 : decode m_Md_equal.2.1 12 = .ok (.if_icmp .ne 7, 3) := by decide +kernel
theorem d_Md_equal_15 : decode m_Md_equal.2.1 15 = .ok (.iconst 1, 1) := by decide +kernel
theorem d_Md_equal_16 : decode m_Md_equal.2.1 16 = .ok (.goto 4, 3) := by decide +kernel
theorem d_Md_equal_19 : decode m_Md_equal.2.1 19 = .ok (.iconst 0, 1) := by decide +kernel
theorem d_Md_equal_20 : decode m_Md_equal.2.1 20 = .ok (.istore_n 3, 1) := by decide +kernel
theorem d_Md_equal_21 : decode m_Md_equal.2.1 21 = .ok (.iconst 0, 1) := by decide +kernel
theorem d_Md_equal_22 : decode m_Md_equal.2.1 22 = .ok (.istore 4, 2) := by decide +kernel
theorem d_Md_equal_24 : decode m_Md_equal.2.1 24 = .ok (.iload 4, 2) := by decide +kernel
theorem d_Md_equal_26 : decode m_Md_equal.2.1 26 = .ok (.aload_n 0, 1) := by decide +kernel
theorem d_Md_equal_27 : decode m_Md_equal.2.1 27 = .ok (.getfield 13, 3) := by decide +kernel
theorem d_Md_equal_30 : decode m_Md_equal.2.1 30 = .ok (.iload_n 1, 1) := by decide +kernel
theorem d_Md_equal_31 : decode m_Md_equal.2.1 31 = .ok (.iaload, 1) := by decide +kernel
theorem d_Md_equal_32 : decode m_Md_equal.2.1 32 = .ok (.if_icmp .ge 36, 3) := by decide +kernel
theorem d_Md_equal_35 : decode m_Md_equal.2.1 35 = .ok (.iload_n 3, 1) := by decide +kernel
theorem d_Md_equal_36 : decode m_Md_equal.2.1 36 = .ok (.ifCond .eq 32, 3) := by decide +kernel
theorem d_Md_equal_39 : decode m_Md_equal.2.1 39 = .ok (.aload_n 0, 1) := by decide +kernel
theorem d_Md_equal_40 : decode m_Md_equal.2.1 40 = .ok (.iload_n 1, 1) := by decide +kernel
theorem d_Md_equal_41 : decode m_Md_equal.2.1 41 = .ok (.iload 4, 2) := by decide +kernel
theorem d_Md_equal_43 : decode m_Md_equal.2.1 43 = .ok (.invokevirtual 49, 3) := by decide +kernel
theorem d_Md_equal_46 : decode m_Md_equal.2.1 46 = .ok (.aload_n 0, 1) := by decide +kernel
theorem d_Md_equal_47 : decode m_Md_equal.2.1 47 = .ok (.iload_n 2, 1) := by decide +kernel
theorem d_Md_equal_48 : decode m_Md_equal.2.1 48 = .ok (.iload 4, 2) := by decide +kernel
theorem d_Md_equal_50 : decode m_Md_equal.2.1 50 = .ok (.invokevirtual 49, 3) := by decide +kernel
theorem d_Md_equal_53 : decode m_Md_equal.2.1 53 = .ok (.if_icmp .ne 7, 3) := by decide +kernel
theorem d_Md_equal_56 : decode m_Md_equal.2.1 56 = .ok (.iconst 1, 1) := by decide +kernel
theorem d_Md_equal_57 : decode m_Md_equal.2.1 57 = .ok (.goto 4, 3) := by decide +kernel
theorem d_Md_equal_60 : decode m_Md_equal.2.1 60 = .ok (.iconst 0, 1) := by decide +kernel
theorem d_Md_equal_61 : decode m_Md_equal.2.1 61 = .ok (.istore_n 3, 1) := by decide +kernel
theorem d_Md_equal_62 : decode m_Md_equal.2.1 62 = .ok (.iinc 4 1, 3) := by decide +kernel
theorem d_Md_equal_65 : decode m_Md_equal.2.1 65 = .ok (.goto (-41), 3) := by decide +kernel
theorem d_Md_equal_68 : decode m_Md_equal.2.1 68 = .ok (.iload_n 3, 1) := by decide +kernel
theorem d_Md_equal_69 : decode m_Md_equal.2.1 69 = .ok (.ireturn, 1) := by decide +kernel
theorem d_Md_isOne_0 : decode m_Md_isOne.2.1 0 = .ok (.aload_n 0, 1) := by decide +kernel
theorem d_Md_isOne_1 : decode m_Md_isOne.2.1 1 = .ok (.getfield 13, 3) := by decide +kernel
theorem d_Md_isOne_4 : decode m_Md_isOne.2.1 4 = .ok (.iload_n 1, 1) := by decide +kernel
theorem d_Md_isOne_5 : decode m_Md_isOne.2.1 5 = .ok (.iaload, 1) := by decide +kernel
theorem d_Md_isOne_6 : decode m_Md_isOne.2.1 6 = .ok (.iconst 1, 1) := by decide +kernel
theorem d_Md_isOne_7 : decode m_Md_isOne.2.1 7 = .ok (.if_icmp .ne 17, 3) := by decide +kernel
theorem d_Md_isOne_10 : decode m_Md_isOne.2.1 10 = .ok (.aload_n 0, 1) := by decide +kernel
theorem d_Md_isOne_11 : decode m_Md_isOne.2.1 11 = .ok (.iload_n 1, 1) := by decide +kernel
theorem d_Md_isOne_12 : decode m_Md_isOne.2.1 12 = .ok (.iconst 0, 1) := by decide +kernel
theorem d_Md_isOne_13 : decode m_Md_isOne.2.1 13 = .ok (.invokevirtual 49, 3) := by decide +kernel
theorem d_Md_isOne_16 : decode m_Md_isOne.2.1 16 = .ok (.iload_n 2, 1) := by decide +kernel
theorem d_Md_isOne_17 : decode m_Md_isOne.2.1 17 = .ok (.if_icmp .ne 7, 3) := by decide +kernel
theorem d_Md_isOne_20 : decode m_Md_isOne.2.1 20 = .ok (.iconst 1, 1) := by decide +kernel
theorem d_Md_isOne_21 : decode m_Md_isOne.2.1 21 = .ok (.goto 4, 3) := by decide +kernel
theorem d_Md_isOne_24 : decode m_Md_isOne.2.1 24 = .ok (.iconst 0, 1) := by decide +kernel
theorem d_Md_isOne_25 : decode m_Md_isOne.2.1 25 = .ok (.ireturn, 1) := by decide +kernel
theorem d_Md_isPair_0 : decode m_Md_isPair.2.1 0 = .ok (.iload_n 0, 1) := by decide +kernel
theorem d_Md_isPair_1 : decode m_Md_isPair.2.1 1 = .ok (.iconst 2, 1) := by decide +kernel
theorem d_Md_isPair_2 : decode m_Md_isPair.2.1 2 = .ok (.if_icmp .lt 12, 3) := by decide +kernel
theorem d_Md_isPair_5 : decode m_Md_isPair.2.1 5 = .ok (.iload_n 0, 1) := by decide +kernel
theorem d_Md_isPair_6 : decode m_Md_isPair.2.1 6 = .ok (.iconst 4, 1) := by decide +kernel
theorem d_Md_isPair_7 : decode m_Md_isPair.2.1 7 = .ok (.if_icmp .gt 7, 3) := by decide +kernel
theorem d_Md_isPair_10 : decode m_Md_isPair.2.1 10 = .ok (.iconst 1, 1) := by decide +kernel
theorem d_Md_isPair_11 : decode m_Md_isPair.2.1 11 = .ok (.goto 4, 3) := by decide +kernel
theorem d_Md_isPair_14 : decode m_Md_isPair.2.1 14 = .ok (.iconst 0, 1) := by decide +kernel
theorem d_Md_isPair_15 : decode m_Md_isPair.2.1 15 = .ok (.ireturn, 1) := by decide +kernel
theorem d_Md_end_0 : decode m_Md_end.2.1 0 = .ok (.iconst 1, 1) := by decide +kernel
theorem d_Md_end_1 : decode m_Md_end.2.1 1 = .ok (.istore_n 3, 1) := by decide +kernel
theorem d_Md_end_2 : decode m_Md_end.2.1 2 = .ok (.iload_n 2, 1) := by decide +kernel
theorem d_Md_end_3 : decode m_Md_end.2.1 3 = .ok (.istore 4, 2) := by decide +kernel
theorem d_Md_end_5 : decode m_Md_end.2.1 5 = .ok (.iload_n 3, 1) := by decide +kernel
theorem d_Md_end_6 : decode m_Md_end.2.1 6 = .ok (.ifCond .le 30, 3) := by decide +kernel
theorem d_Md_end_9 : decode m_Md_end.2.1 9 = .ok (.iload_n 3, 1) := by decide +kernel
theorem d_Md_end_10 : decode m_Md_end.2.1 10 = .ok (.aload_n 0, 1) := by decide +kernel
theorem d_Md_end_11 : decode m_Md_end.2.1 11 = .ok (.iload_n 1, 1) := by decide +kernel
theorem d_Md_end_12 : decode m_Md_end.2.1 12 = .ok (.iload 4, 2) := by decide +kernel
theorem d_Md_end_14 : decode m_Md_end.2.1 14 = .ok (.invokevirtual 49, 3) := by decide +kernel
theorem d_Md_end_17 : decode m_Md_end.2.1 17 = .ok (.invokestatic 60, 3) := by decide +kernel
theorem d_Md_end_20 : decode m_Md_end.2.1 20 = .ok (.ifCond .eq 7, 3) := by decide +kernel
theorem d_Md_end_23 : decode m_Md_end.2.1 23 = .ok (.iconst 1, 1) := by decide +kernel
theorem d_Md_end_24 : decode m_Md_end.2.1 24 = .ok (.goto 4, 3) := by decide +kernel
theorem d_Md_end_27 : decode m_Md_end.2.1 27 = .ok (.iconst (-1), 1) := by decide +kernel
theorem d_Md_end_28 : decode m_Md_end.2.1 28 = .ok (.iadd, 1) := by decide +kernel
theorem d_Md_end_29 : decode m_Md_end.2.1 29 = .ok (.istore_n 3, 1) := by decide +kernel
theorem d_Md_end_30 : decode m_Md_end.2.1 30 = .ok (.iinc 4 1, 3) := by decide +kernel
theorem d_Md_end_33 : decode m_Md_end.2.1 33 = .ok (.goto (-28), 3) := by decide +kernel
theorem d_Md_end_36 : decode m_Md_end.2.1 36 = .ok (.iload 4, 2) := by decide +kernel
theorem d_Md_end_38 : decode m_Md_end.2.1 38 = .ok (.ireturn, 1) := by decide +kernel
theorem d_Md_measure_0 : decode m_Md_measure.2.1 0 = .ok (.iconst 1, 1) := by decide +kernel
theorem d_Md_measure_1 : decode m_Md_measure.2.1 1 = .ok (.istore_n 3, 1) := by decide +kernel
theorem d_Md_measure_2 : decode m_Md_measure.2.1 2 = .ok (.aload_n 0, 1) := by decide +kernel
theorem d_Md_measure_3 : decode m_Md_measure.2.1 3 = .ok (.getfield 32, 3) := by decide +kernel
theorem d_Md_measure_6 : decode m_Md_measure.2.1 6 = .ok (.iconst 0, 1) := by decide +kernel
theorem d_Md_measure_7 : decode m_Md_measure.2.1 7 = .ok (.iconst 0, 1) := by decide +kernel
theorem d_Md_measure_8 : decode m_Md_measure.2.1 8 = .ok (.iastore, 1) := by decide +kernel
theorem d_Md_measure_9 : decode m_Md_measure.2.1 9 = .ok (.iconst 0, 1) := by decide +kernel
theorem d_Md_measure_10 : decode m_Md_measure.2.1 10 = .ok (.istore 4, 2) := by decide +kernel
theorem d_Md_measure_12 : decode m_Md_measure.2.1 12 = .ok (.iload 4, 2) := by decide +kernel
theorem d_Md_measure_14 : decode m_Md_measure.2.1 14 = .ok (.aload_n 0, 1) := by decide +kernel
theorem d_Md_measure_15 : decode m_Md_measure.2.1 15 = .ok (.getfield 13, 3) := by decide +kernel
theorem d_Md_measure_18 : decode m_Md_measure.2.1 18 = .ok (.iload_n 1, 1) := by decide +kernel
theorem d_Md_measure_19 : decode m_Md_measure.2.1 19 = .ok (.iaload, 1) := by decide +kernel
theorem d_Md_measure_20 : decode m_Md_measure.2.1 20 = .ok (.if_icmp .ge 96, 3) := by decide +kernel
theorem d_Md_measure_23 : decode m_Md_measure.2.1 23 = .ok (.iinc 3 (-1), 3) := by decide +kernel
theorem d_Md_measure_26 : decode m_Md_measure.2.1 26 = .ok (.aload_n 0, 1) := by decide +kernel
theorem d_Md_measure_27 : decode m_Md_measure.2.1 27 = .ok (.getfield 32, 3) := by decide +kernel
theorem d_Md_measure_30 : decode m_Md_measure.2.1 30 = .ok (.iload_n 3, 1) := by decide +kernel
theorem d_Md_measure_31 : decode m_Md_measure.2.1 31 = .ok (.iaload, 1) := by decide +kernel
theorem d_Md_measure_32 : decode m_Md_measure.2.1 32 = .ok (.istore 5, 2) := by decide +kernel
theorem d_Md_measure_34 : decode m_Md_measure.2.1 34 = .ok (.aload_n 0, 1) := by decide +kernel
theorem d_Md_measure_35 : decode m_Md_measure.2.1 35 = .ok (.iload_n 1, 1) := by decide +kernel
theorem d_Md_measure_36 : decode m_Md_measure.2.1 36 = .ok (.iload 4, 2) := by decide +kernel
theorem d_Md_measure_38 : decode m_Md_measure.2.1 38 = .ok (.invokevirtual 49, 3) := by decide +kernel
theorem d_Md_measure_41 : decode m_Md_measure.2.1 41 = .ok (.istore 6, 2) := by decide +kernel
theorem d_Md_measure_43 : decode m_Md_measure.2.1 43 = .ok (.iload_n 2, 1) := by decide +kernel
theorem d_Md_measure_44 : decode m_Md_measure.2.1 44 = .ok (.ifCond .eq 15, 3) := by decide +kernel
theorem d_Md_measure_47 : decode m_Md_measure.2.1 47 = .ok (.aload_n 0, 1) := by decide +kernel
theorem d_Md_measure_48 : decode m_Md_measure.2.1 48 = .ok (.getfield 29, 3) := by decide +kernel
theorem d_Md_measure_51 : decode m_Md_measure.2.1 51 = .ok (.iload 4, 2) := by decide +kernel
theorem d_Md_measure_53 : decode m_Md_measure.2.1 53 = .ok (.iload 5, 2) := by decide +kernel
theorem d_Md_measure_55 : decode m_Md_measure.2.1 55 = .ok (.iastore, 1) := by decide +kernel
theorem d_Md_measure_56 : decode m_Md_measure.2.1 56 = .ok (.goto 12, 3) := by decide +kernel
theorem d_Md_measure_59 : decode m_Md_measure.2.1 59 = .ok (.aload_n 0, 1) := by decide +kernel
theorem d_Md_measure_60 : decode m_Md_measure.2.1 60 = .ok (.getfield 26, 3) := by decide +kernel
theorem d_Md_measure_63 : decode m_Md_measure.2.1 63 = .ok (.iload 4, 2) := by decide +kernel
theorem d_Md_measure_65 : decode m_Md_measure.2.1 65 = .ok (.iload 5, 2) := by decide +kernel
theorem d_Md_measure_67 : decode m_Md_measure.2.1 67 = .ok (.iastore, 1) := by decide +kernel
theorem d_Md_measure_68 : decode m_Md_measure.2.1 68 = .ok (.iload 6, 2) := by decide +kernel
theorem d_Md_measure_70 : decode m_Md_measure.2.1 70 = .ok (.invokestatic 60, 3) := by decide +kernel
theorem d_Md_measure_73 : decode m_Md_measure.2.1 73 = .ok (.ifCond .eq 37, 3) := by decide +kernel
theorem d_Md_measure_76 : decode m_Md_measure.2.1 76 = .ok (.aload_n 0, 1) := by decide +kernel
theorem d_Md_measure_77 : decode m_Md_measure.2.1 77 = .ok (.getfield 32, 3) := by decide +kernel
theorem d_Md_measure_80 : decode m_Md_measure.2.1 80 = .ok (.iload_n 3, 1) := by decide +kernel
theorem d_Md_measure_81 : decode m_Md_measure.2.1 81 = .ok (.iload 6, 2) := by decide +kernel
theorem d_Md_measure_83 : decode m_Md_measure.2.1 83 = .ok (.iconst 2, 1) := by decide +kernel
theorem d_Md_measure_84 : decode m_Md_measure.2.1 84 = .ok (.if_icmp .ne 8, 3) := by decide +kernel
theorem d_Md_measure_87 : decode m_Md_measure.2.1 87 = .ok (.iload 5, 2) := by decide +kernel
theorem d_Md_measure_89 : decode m_Md_measure.2.1 89 = .ok (.goto 7, 3) := by decide +kernel
theorem d_Md_measure_92 : decode m_Md_measure.2.1 92 = .ok (.iload 5, 2) := by decide +kernel
theorem d_Md_measure_94 : decode m_Md_measure.2.1 94 = .ok (.iconst 1, 1) := by decide +kernel
theorem d_Md_measure_95 : decode m_Md_measure.2.1 95 = .ok (.iadd, 1) := by decide +kernel
theorem d_Md_measure_96 : decode m_Md_measure.2.1 96 = .ok (.iastore, 1) := by decide +kernel
theorem d_Md_measure_97 : decode m_Md_measure.2.1 97 = .ok (.aload_n 0, 1) := by decide +kernel
theorem d_Md_measure_98 : decode m_Md_measure.2.1 98 = .ok (.getfield 32, 3) := by decide +kernel
theorem d_Md_measure_101 : decode m_Md_measure.2.1 101 = .ok (.iload_n 3, 1) := by decide +kernel
theorem d_Md_measure_102 : decode m_Md_measure.2.1 102 = .ok (.iconst 1, 1) := by decide +kernel
theorem d_Md_measure_103 : decode m_Md_measure.2.1 103 = .ok (.iadd, 1) := by decide +kernel
theorem d_Md_measure_104 : decode m_Md_measure.2.1 104 = .ok (.iload 5, 2) := by decide +kernel
theorem d_Md_measure_106 : decode m_Md_measure.2.1 106 = .ok (.iastore, 1) := by decide +kernel
theorem d_Md_measure_107 : decode m_Md_measure.2.1 107 = .ok (.iinc 3 2, 3) := by decide +kernel
theorem d_Md_measure_110 : decode m_Md_measure.2.1 110 = .ok (.iinc 4 1, 3) := by decide +kernel
theorem d_Md_measure_113 : decode m_Md_measure.2.1 113 = .ok (.goto (-101), 3) := by decide +kernel
theorem d_Md_measure_116 : decode m_Md_measure.2.1 116 = .ok (.return_, 1) := by decide +kernel
theorem d_Md_addShifted_0 : decode m_Md_addShifted.2.1 0 = .ok (.iload_n 3, 1) := by decide +kernel
theorem d_Md_addShifted_1 : decode m_Md_addShifted.2.1 1 = .ok (.istore 6, 2) := by decide +kernel
theorem d_Md_addShifted_3 : decode m_Md_addShifted.2.1 3 = .ok (.iload 6, 2) := by decide +kernel
theorem d_Md_addShifted_5 : decode m_Md_addShifted.2.1 5 = .ok (.iload 4, 2) := by decide +kernel
theorem d_Md_addShifted_7 : decode m_Md_addShifted.2.1 7 = .ok (.if_icmp .ge 55, 3) := by decide +kernel
theorem d_Md_addShifted_10 : decode m_Md_addShifted.2.1 10 = .ok (.aload_n 0, 1) := by decide +kernel
theorem d_Md_addShifted_11 : decode m_Md_addShifted.2.1 11 = .ok (.iload_n 2, 1) := by decide +kernel
theorem d_Md_addShifted_12 : decode m_Md_addShifted.2.1 12 = .ok (.iload 6, 2) := by decide +kernel
theorem d_Md_addShifted_14 : decode m_Md_addShifted.2.1 14 = .ok (.invokevirtual 49, 3) := by decide +kernel
theorem d_Md_addShifted_17 : decode m_Md_addShifted.2.1 17 = .ok (.istore 7, 2) := by decide +kernel
theorem d_Md_addShifted_19 : decode m_Md_addShifted.2.1 19 = .ok (.aload_n 0, 1) := by decide +kernel
theorem d_Md_addShifted_20 : decode m_Md_addShifted.2.1 20 = .ok (.iload_n 1, 1) := by decide +kernel
theorem d_Md_addShifted_21 : decode m_Md_addShifted.2.1 21 = .ok (.iload 7, 2) := by decide +kernel
theorem d_Md_addShifted_23 : decode m_Md_addShifted.2.1 23 = .ok (.bipush 100, 2) := by decide +kernel
theorem d_Md_addShifted_25 : decode m_Md_addShifted.2.1 25 = .ok (.aload_n 0, 1) := by decide +kernel
theorem d_Md_addShifted_26 : decode m_Md_addShifted.2.1 26 = .ok (.getfield 26, 3) := by decide +kernel
theorem d_Md_addShifted_29 : decode m_Md_addShifted.2.1 29 = .ok (.iload 6, 2) := by decide +kernel
theorem d_Md_addShifted_31 : decode m_Md_addShifted.2.1 31 = .ok (.iaload, 1) := by decide +kernel
theorem d_Md_addShifted_32 : decode m_Md_addShifted.2.1 32 = .ok (.iadd, 1) := by decide +kernel
theorem d_Md_addShifted_33 : decode m_Md_addShifted.2.1 33 = .ok (.aload_n 0, 1) := by decide +kernel
theorem d_Md_addShifted_34 : decode m_Md_addShifted.2.1 34 = .ok (.getfield 26, 3) := by decide +kernel
theorem d_Md_addShifted_37 : decode m_Md_addShifted.2.1 37 = .ok (.iload_n 3, 1) := by decide +kernel
theorem d_Md_addShifted_38 : decode m_Md_addShifted.2.1 38 = .ok (.iaload, 1) := by decide +kernel
theorem d_Md_addShifted_39 : decode m_Md_addShifted.2.1 39 = .ok (.isub, 1) := by decide +kernel
theorem d_Md_addShifted_40 : decode m_Md_addShifted.2.1 40 = .ok (.if_icmp .lt 11, 3) := by decide +kernel
theorem d_Md_addShifted_43 : decode m_Md_addShifted.2.1 43 = .ok (.iload 7, 2) := by decide +kernel
theorem d_Md_addShifted_45 : decode m_Md_addShifted.2.1 45 = .ok (.iload 5, 2) := by decide +kernel
theorem d_Md_addShifted_47 : decode m_Md_addShifted.2.1 47 = .ok (.iadd, 1) := by decide +kernel
theorem d_Md_addShifted_48 : decode m_Md_addShifted.2.1 48 = .ok (.goto 5, 3) := by decide +kernel
theorem d_Md_addShifted_51 : decode m_Md_addShifted.2.1 51 = .ok (.iload 7, 2) := by decide +kernel
theorem d_Md_addShifted_53 : decode m_Md_addShifted.2.1 53 = .ok (.invokevirtual 53, 3) := by decide +kernel
theorem d_Md_addShifted_56 : decode m_Md_addShifted.2.1 56 = .ok (.iinc 6 1, 3) := by decide +kernel
theorem d_Md_addShifted_59 : decode m_Md_addShifted.2.1 59 = .ok (.goto (-56), 3) := by decide +kernel
theorem d_Md_addShifted_62 : decode m_Md_addShifted.2.1 62 = .ok (.return_, 1) := by decide +kernel
theorem d_Md_addPut_0 : decode m_Md_addPut.2.1 0 = .ok (.iload_n 3, 1) := by decide +kernel
theorem d_Md_addPut_1 : decode m_Md_addPut.2.1 1 = .ok (.istore 7, 2) := by decide +kernel
theorem d_Md_addPut_3 : decode m_Md_addPut.2.1 3 = .ok (.iload 7, 2) := by decide +kernel
theorem d_Md_addPut_5 : decode m_Md_addPut.2.1 5 = .ok (.iload 4, 2) := by decide +kernel
theorem d_Md_addPut_7 : decode m_Md_addPut.2.1 7 = .ok (.if_icmp .ge 88, 3) := by decide +kernel
theorem d_Md_addPut_10 : decode m_Md_addPut.2.1 10 = .ok (.aload_n 0, 1) := by decide +kernel
theorem d_Md_addPut_11 : decode m_Md_addPut.2.1 11 = .ok (.iload_n 2, 1) := by decide +kernel
theorem d_Md_addPut_12 : decode m_Md_addPut.2.1 12 = .ok (.iload 7, 2) := by decide +kernel
theorem d_Md_addPut_14 : decode m_Md_addPut.2.1 14 = .ok (.invokevirtual 49, 3) := by decide +kernel
theorem d_Md_addPut_17 : decode m_Md_addPut.2.1 17 = .ok (.istore 8, 2) := by decide +kernel
theorem d_Md_addPut_19 : decode m_Md_addPut.2.1 19 = .ok (.bipush 100, 2) := by decide +kernel
theorem d_Md_addPut_21 : decode m_Md_addPut.2.1 21 = .ok (.aload_n 0, 1) := by decide +kernel
theorem d_Md_addPut_22 : decode m_Md_addPut.2.1 22 = .ok (.getfield 26, 3) := by decide +kernel
theorem d_Md_addPut_25 : decode m_Md_addPut.2.1 25 = .ok (.iload 7, 2) := by decide +kernel
theorem d_Md_addPut_27 : decode m_Md_addPut.2.1 27 = .ok (.iaload, 1) := by decide +kernel
theorem d_Md_addPut_28 : decode m_Md_addPut.2.1 28 = .ok (.iadd, 1) := by decide +kernel
theorem d_Md_addPut_29 : decode m_Md_addPut.2.1 29 = .ok (.aload_n 0, 1) := by decide +kernel
theorem d_Md_addPut_30 : decode m_Md_addPut.2.1 30 = .ok (.getfield 26, 3) := by decide +kernel
theorem d_Md_addPut_33 : decode m_Md_addPut.2.1 33 = .ok (.iload_n 3, 1) := by decide +kernel
theorem d_Md_addPut_34 : decode m_Md_addPut.2.1 34 = .ok (.iaload, 1) := by decide +kernel
theorem d_Md_addPut_35 : decode m_Md_addPut.2.1 35 = .ok (.isub, 1) := by decide +kernel
theorem d_Md_addPut_36 : decode m_Md_addPut.2.1 36 = .ok (.istore 9, 2) := by decide +kernel
theorem d_Md_addPut_38 : decode m_Md_addPut.2.1 38 = .ok (.iload 8, 2) := by decide +kernel
theorem d_Md_addPut_40 : decode m_Md_addPut.2.1 40 = .ok (.iload 9, 2) := by decide +kernel
theorem d_Md_addPut_42 : decode m_Md_addPut.2.1 42 = .ok (.if_icmp .ge 13, 3) := by decide +kernel
theorem d_Md_addPut_45 : decode m_Md_addPut.2.1 45 = .ok (.aload_n 0, 1) := by decide +kernel
theorem d_Md_addPut_46 : decode m_Md_addPut.2.1 46 = .ok (.iload_n 1, 1) := by decide +kernel
theorem d_Md_addPut_47 : decode m_Md_addPut.2.1 47 = .ok (.iload 8, 2) := by decide +kernel
theorem d_Md_addPut_49 : decode m_Md_addPut.2.1 49 = .ok (.invokevirtual 53, 3) := by decide +kernel
theorem d_Md_addPut_52 : decode m_Md_addPut.2.1 52 = .ok (.goto 37, 3) := by decide +kernel
theorem d_Md_addPut_55 : decode m_Md_addPut.2.1 55 = .ok (.iload 8, 2) := by decide +kernel
theorem d_Md_addPut_57 : decode m_Md_addPut.2.1 57 = .ok (.iload 9, 2) := by decide +kernel
theorem d_Md_addPut_59 : decode m_Md_addPut.2.1 59 = .ok (.if_icmp .ne 21, 3) := by decide +kernel
theorem d_Md_addPut_62 : decode m_Md_addPut.2.1 62 = .ok (.aload_n 0, 1) := by decide +kernel
theorem d_Md_addPut_63 : decode m_Md_addPut.2.1 63 = .ok (.iload_n 1, 1) := by decide +kernel
theorem d_Md_addPut_64 : decode m_Md_addPut.2.1 64 = .ok (.iload_n 2, 1) := by decide +kernel
theorem d_Md_addPut_65 : decode m_Md_addPut.2.1 65 = .ok (.iload 5, 2) := by decide +kernel
theorem d_Md_addPut_67 : decode m_Md_addPut.2.1 67 = .ok (.iload 6, 2) := by decide +kernel
theorem d_Md_addPut_69 : decode m_Md_addPut.2.1 69 = .ok (.iload 8, 2) := by decide +kernel
theorem d_Md_addPut_71 : decode m_Md_addPut.2.1 71 = .ok (.bipush 100, 2) := by decide +kernel
theorem d_Md_addPut_73 : decode m_Md_addPut.2.1 73 = .ok (.isub, 1) := by decide +kernel
theorem d_Md_addPut_74 : decode m_Md_addPut.2.1 74 = .ok (.invokevirtual 64, 3) := by decide +kernel
theorem d_Md_addPut_77 : decode m_Md_addPut.2.1 77 = .ok (.goto 12, 3) := by decide +kernel
theorem d_Md_addPut_80 : decode m_Md_addPut.2.1 80 = .ok (.aload_n 0, 1) := by decide +kernel
theorem d_Md_addPut_81 : decode m_Md_addPut.2.1 81 = .ok (.iload_n 1, 1) := by decide +kernel
theorem d_Md_addPut_82 : decode m_Md_addPut.2.1 82 = .ok (.iload 8, 2) := by decide +kernel
theorem d_Md_addPut_84 : decode m_Md_addPut.2.1 84 = .ok (.iconst 1, 1) := by decide +kernel
theorem d_Md_addPut_85 : decode m_Md_addPut.2.1 85 = .ok (.isub, 1) := by decide +kernel
theorem d_Md_addPut_86 : decode m_Md_addPut.2.1 86 = .ok (.invokevirtual 53, 3) := by decide +kernel
theorem d_Md_addPut_89 : decode m_Md_addPut.2.1 89 = .ok (.iinc 7 1, 3) := by decide +kernel
theorem d_Md_addPut_92 : decode m_Md_addPut.2.1 92 = .ok (.goto (-89), 3) := by decide +kernel
theorem d_Md_addPut_95 : decode m_Md_addPut.2.1 95 = .ok (.return_, 1) := by decide +kernel
theorem d_Md_matches_0 : decode m_Md_matches.2.1 0 = .ok (.iload_n 2, 1) := by decide +kernel
theorem d_Md_matches_1 : decode m_Md_matches.2.1 1 = .ok (.istore_n 3, 1) := by decide +kernel
theorem d_Md_matches_2 : decode m_Md_matches.2.1 2 = .ok (.iconst 0, 1) := by decide +kernel
theorem d_Md_matches_3 : decode m_Md_matches.2.1 3 = .ok (.istore 4, 2) := by decide +kernel
theorem d_Md_matches_5 : decode m_Md_matches.2.1 5 = .ok (.iload 4, 2) := by decide +kernel
theorem d_Md_matches_7 : decode m_Md_matches.2.1 7 = .ok (.aload_n 0, 1) := by decide +kernel
theorem d_Md_matches_8 : decode m_Md_matches.2.1 8 = .ok (.getfield 13, 3) := by decide +kernel
theorem d_Md_matches_11 : decode m_Md_matches.2.1 11 = .ok (.bipush 24, 2) := by decide +kernel
theorem d_Md_matches_13 : decode m_Md_matches.2.1 13 = .ok (.iload_n 1, 1) := by decide +kernel
theorem d_Md_matches_14 : decode m_Md_matches.2.1 14 = .ok (.iadd, 1) := by decide +kernel
theorem d_Md_matches_15 : decode m_Md_matches.2.1 15 = .ok (.iaload, 1) := by decide +kernel
theorem d_Md_matches_16 : decode m_Md_matches.2.1 16 = .ok (.if_icmp .ge 78, 3) := by decide +kernel
theorem d_Md_matches_19 : decode m_Md_matches.2.1 19 = .ok (.aload_n 0, 1) := by decide +kernel
theorem d_Md_matches_20 : decode m_Md_matches.2.1 20 = .ok (.bipush 24, 2) := by decide +kernel
theorem d_Md_matches_22 : decode m_Md_matches.2.1 22 = .ok (.iload_n 1, 1) := by decide +kernel
theorem d_Md_matches_23 : decode m_Md_matches.2.1 23 = .ok (.iadd, 1) := by decide +kernel
theorem d_Md_matches_24 : decode m_Md_matches.2.1 24 = .ok (.iload 4, 2) := by decide +kernel
theorem d_Md_matches_26 : decode m_Md_matches.2.1 26 = .ok (.invokevirtual 49, 3) := by decide +kernel
theorem d_Md_matches_29 : decode m_Md_matches.2.1 29 = .ok (.istore 5, 2) := by decide +kernel
theorem d_Md_matches_31 : decode m_Md_matches.2.1 31 = .ok (.iload 5, 2) := by decide +kernel
theorem d_Md_matches_33 : decode m_Md_matches.2.1 33 = .ok (.bipush 100, 2) := by decide +kernel
theorem d_Md_matches_35 : decode m_Md_matches.2.1 35 = .ok (.if_icmp .lt 36, 3) := by decide +kernel
theorem d_Md_matches_38 : decode m_Md_matches.2.1 38 = .ok (.aload_n 0, 1) := by decide +kernel
theorem d_Md_matches_39 : decode m_Md_matches.2.1 39 = .ok (.getfield 35, 3) := by decide +kernel
theorem d_Md_matches_42 : decode m_Md_matches.2.1 42 = .ok (.iload 5, 2) := by decide +kernel
theorem d_Md_matches_44 : decode m_Md_matches.2.1 44 = .ok (.bipush 100, 2) := by decide +kernel
theorem d_Md_matches_46 : decode m_Md_matches.2.1 46 = .ok (.isub, 1) := by decide +kernel
theorem d_Md_matches_47 : decode m_Md_matches.2.1 47 = .ok (.iload_n 3, 1) := by decide +kernel
theorem d_Md_matches_48 : decode m_Md_matches.2.1 48 = .ok (.iastore, 1) := by decide +kernel
theorem d_Md_matches_49 : decode m_Md_matches.2.1 49 = .ok (.aload_n 0, 1) := by decide +kernel
theorem d_Md_matches_50 : decode m_Md_matches.2.1 50 = .ok (.bipush 40, 2) := by decide +kernel
theorem d_Md_matches_52 : decode m_Md_matches.2.1 52 = .ok (.iload_n 3, 1) := by decide +kernel
theorem d_Md_matches_53 : decode m_Md_matches.2.1 53 = .ok (.invokevirtual 68, 3) := by decide +kernel
theorem d_Md_matches_56 : decode m_Md_matches.2.1 56 = .ok (.istore_n 3, 1) := by decide +kernel
theorem d_Md_matches_57 : decode m_Md_matches.2.1 57 = .ok (.aload_n 0, 1) := by decide +kernel
theorem d_Md_matches_58 : decode m_Md_matches.2.1 58 = .ok (.getfield 38, 3) := by decide +kernel
theorem d_Md_matches_61 : decode m_Md_matches.2.1 61 = .ok (.iload 5, 2) := by decide +kernel
theorem d_Md_matches_63 : decode m_Md_matches.2.1 63 = .ok (.bipush 100, 2) := by decide +kernel
theorem d_Md_matches_65 : decode m_Md_matches.2.1 65 = .ok (.isub, 1) := by decide +kernel
theorem d_Md_matches_66 : decode m_Md_matches.2.1 66 = .ok (.iload_n 3, 1) := by decide +kernel
theorem d_Md_matches_67 : decode m_Md_matches.2.1 67 = .ok (.iastore, 1) := by decide +kernel
theorem d_Md_matches_68 : decode m_Md_matches.2.1 68 = .ok (.goto 20, 3) := by decide +kernel
theorem d_Md_matches_71 : decode m_Md_matches.2.1 71 = .ok (.aload_n 0, 1) := by decide +kernel
theorem d_Md_matches_72 : decode m_Md_matches.2.1 72 = .ok (.bipush 40, 2) := by decide +kernel
theorem d_Md_matches_74 : decode m_Md_matches.2.1 74 = .ok (.iload_n 3, 1) := by decide +kernel
theorem d_Md_matches_75 : decode m_Md_matches.2.1 75 = .ok (.invokevirtual 49, 3) := by decide +kernel
theorem d_Md_matches_78 : decode m_Md_matches.2.1 78 = .ok (.iload 5, 2) := by decide +kernel
theorem d_Md_matches_80 : decode m_Md_matches.2.1 80 = .ok (.if_icmp .eq 5, 3) := by decide +kernel
theorem d_Md_matches_83 : decode m_Md_matches.2.1 83 = .ok (.iconst 0, 1) := by decide +kernel
theorem d_Md_matches_84 : decode m_Md_matches.2.1 84 = .ok (.ireturn, 1) := by decide +kernel
theorem d_Md_matches_85 : decode m_Md_matches.2.1 85 = .ok (.iinc 3 1, 3) := by decide +kernel
theorem d_Md_matches_88 : decode m_Md_matches.2.1 88 = .ok (.iinc 4 1, 3) := by decide +kernel
theorem d_Md_matches_91 : decode m_Md_matches.2.1 91 = .ok (.goto (-86), 3) := by decide +kernel
theorem d_Md_matches_94 : decode m_Md_matches.2.1 94 = .ok (.iconst 1, 1) := by decide +kernel
theorem d_Md_matches_95 : decode m_Md_matches.2.1 95 = .ok (.ireturn, 1) := by decide +kernel
theorem d_Md_addResult_0 : decode m_Md_addResult.2.1 0 = .ok (.bipush 32, 2) := by decide +kernel
theorem d_Md_addResult_2 : decode m_Md_addResult.2.1 2 = .ok (.iload_n 1, 1) := by decide +kernel
theorem d_Md_addResult_3 : decode m_Md_addResult.2.1 3 = .ok (.iadd, 1) := by decide +kernel
theorem d_Md_addResult_4 : decode m_Md_addResult.2.1 4 = .ok (.istore_n 2, 1) := by decide +kernel
theorem d_Md_addResult_5 : decode m_Md_addResult.2.1 5 = .ok (.aload_n 0, 1) := by decide +kernel
theorem d_Md_addResult_6 : decode m_Md_addResult.2.1 6 = .ok (.iload_n 2, 1) := by decide +kernel
theorem d_Md_addResult_7 : decode m_Md_addResult.2.1 7 = .ok (.iconst 1, 1) := by decide +kernel
theorem d_Md_addResult_8 : decode m_Md_addResult.2.1 8 = .ok (.invokevirtual 71, 3) := by decide +kernel
theorem d_Md_addResult_11 : decode m_Md_addResult.2.1 11 = .ok (.iconst 0, 1) := by decide +kernel
theorem d_Md_addResult_12 : decode m_Md_addResult.2.1 12 = .ok (.istore_n 3, 1) := by decide +kernel
theorem d_Md_addResult_13 : decode m_Md_addResult.2.1 13 = .ok (.iload_n 3, 1) := by decide +kernel
theorem d_Md_addResult_14 : decode m_Md_addResult.2.1 14 = .ok (.aload_n 0, 1) := by decide +kernel
theorem d_Md_addResult_15 : decode m_Md_addResult.2.1 15 = .ok (.getfield 13, 3) := by decide +kernel
theorem d_Md_addResult_18 : decode m_Md_addResult.2.1 18 = .ok (.iload_n 2, 1) := by decide +kernel
theorem d_Md_addResult_19 : decode m_Md_addResult.2.1 19 = .ok (.iaload, 1) := by decide +kernel
theorem d_Md_addResult_20 : decode m_Md_addResult.2.1 20 = .ok (.if_icmp .ge 82, 3) := by decide +kernel
theorem d_Md_addResult_23 : decode m_Md_addResult.2.1 23 = .ok (.aload_n 0, 1) := by decide +kernel
theorem d_Md_addResult_24 : decode m_Md_addResult.2.1 24 = .ok (.iload_n 2, 1) := by decide +kernel
theorem d_Md_addResult_25 : decode m_Md_addResult.2.1 25 = .ok (.iload_n 3, 1) := by decide +kernel
theorem d_Md_addResult_26 : decode m_Md_addResult.2.1 26 = .ok (.invokevirtual 49, 3) := by decide +kernel
theorem d_Md_addResult_29 : decode m_Md_addResult.2.1 29 = .ok (.istore 4, 2) := by decide +kernel
theorem d_Md_addResult_31 : decode m_Md_addResult.2.1 31 = .ok (.iload 4, 2) := by decide +kernel
theorem d_Md_addResult_33 : decode m_Md_addResult.2.1 33 = .ok (.bipush 100, 2) := by decide +kernel
theorem d_Md_addResult_35 : decode m_Md_addResult.2.1 35 = .ok (.isub, 1) := by decide +kernel
theorem d_Md_addResult_36 : decode m_Md_addResult.2.1 36 = .ok (.aload_n 0, 1) := by decide +kernel
theorem d_Md_addResult_37 : decode m_Md_addResult.2.1 37 = .ok (.getfield 29, 3) := by decide +kernel
theorem d_Md_addResult_40 : decode m_Md_addResult.2.1 40 = .ok (.iload_n 3, 1) := by decide +kernel
theorem d_Md_addResult_41 : decode m_Md_addResult.2.1 41 = .ok (.iaload, 1) := by decide +kernel
theorem d_Md_addResult_42 : decode m_Md_addResult.2.1 42 = .ok (.isub, 1) := by decide +kernel
theorem d_Md_addResult_43 : decode m_Md_addResult.2.1 43 = .ok (.istore 5, 2) := by decide +kernel
theorem d_Md_addResult_45 : decode m_Md_addResult.2.1 45 = .ok (.iload 4, 2) := by decide +kernel
theorem d_Md_addResult_47 : decode m_Md_addResult.2.1 47 = .ok (.bipush 100, 2) := by decide +kernel
theorem d_Md_addResult_49 : decode m_Md_addResult.2.1 49 = .ok (.if_icmp .lt 39, 3) := by decide +kernel
theorem d_Md_addResult_52 : decode m_Md_addResult.2.1 52 = .ok (.iload 5, 2) := by decide +kernel
theorem d_Md_addResult_54 : decode m_Md_addResult.2.1 54 = .ok (.ifCond .lt 34, 3) := by decide +kernel
theorem d_Md_addResult_57 : decode m_Md_addResult.2.1 57 = .ok (.aload_n 0, 1) := by decide +kernel
theorem d_Md_addResult_58 : decode m_Md_addResult.2.1 58 = .ok (.bipush 41, 2) := by decide +kernel
theorem d_Md_addResult_60 : decode m_Md_addResult.2.1 60 = .ok (.bipush 40, 2) := by decide +kernel
theorem d_Md_addResult_62 : decode m_Md_addResult.2.1 62 = .ok (.aload_n 0, 1) := by decide +kernel
theorem d_Md_addResult_63 : decode m_Md_addResult.2.1 63 = .ok (.getfield 35, 3) := by decide +kernel
theorem d_Md_addResult_66 : decode m_Md_addResult.2.1 66 = .ok (.iload 5, 2) := by decide +kernel
theorem d_Md_addResult_68 : decode m_Md_addResult.2.1 68 = .ok (.iaload, 1) := by decide +kernel
theorem d_Md_addResult_69 : decode m_Md_addResult.2.1 69 = .ok (.aload_n 0, 1) := by decide +kernel
theorem d_Md_addResult_70 : decode m_Md_addResult.2.1 70 = .ok (.getfield 38, 3) := by decide +kernel
theorem d_Md_addResult_73 : decode m_Md_addResult.2.1 73 = .ok (.iload 5, 2) := by decide +kernel
theorem d_Md_addResult_75 : decode m_Md_addResult.2.1 75 = .ok (.iaload, 1) := by decide +kernel
theorem d_Md_addResult_76 : decode m_Md_addResult.2.1 76 = .ok (.aload_n 0, 1) := by decide +kernel
theorem d_Md_addResult_77 : decode m_Md_addResult.2.1 77 = .ok (.getfield 29, 3) := by decide +kernel
theorem d_Md_addResult_80 : decode m_Md_addResult.2.1 80 = .ok (.iload_n 3, 1) := by decide +kernel
theorem d_Md_addResult_81 : decode m_Md_addResult.2.1 81 = .ok (.iaload, 1) := by decide +kernel
theorem d_Md_addResult_82 : decode m_Md_addResult.2.1 82 = .ok (.invokevirtual 64, 3) := by decide +kernel
theorem d_Md_addResult_85 : decode m_Md_addResult.2.1 85 = .ok (.goto 11, 3) := by decide +kernel
theorem d_Md_addResult_88 : decode m_Md_addResult.2.1 88 = .ok (.aload_n 0, 1) := by decide +kernel
theorem d_Md_addResult_89 : decode m_Md_addResult.2.1 89 = .ok (.bipush 41, 2) := by decide +kernel
theorem d_Md_addResult_91 : decode m_Md_addResult.2.1 91 = .ok (.iload 4, 2) := by decide +kernel
theorem d_Md_addResult_93 : decode m_Md_addResult.2.1 93 = .ok (.invokevirtual 53, 3) := by decide +kernel
theorem d_Md_addResult_96 : decode m_Md_addResult.2.1 96 = .ok (.iinc 3 1, 3) := by decide +kernel
theorem d_Md_addResult_99 : decode m_Md_addResult.2.1 99 = .ok (.goto (-86), 3) := by decide +kernel
theorem d_Md_addResult_102 : decode m_Md_addResult.2.1 102 = .ok (.return_, 1) := by decide +kernel
theorem d_Md_redex_0 : decode m_Md_redex.2.1 0 = .ok (.aload_n 0, 1) := by decide +kernel
theorem d_Md_redex_1 : decode m_Md_redex.2.1 1 = .ok (.bipush 40, 2) := by decide +kernel
theorem d_Md_redex_3 : decode m_Md_redex.2.1 3 = .ok (.iload_n 1, 1) := by decide +kernel
theorem d_Md_redex_4 : decode m_Md_redex.2.1 4 = .ok (.invokevirtual 49, 3) := by decide +kernel
theorem d_Md_redex_7 : decode m_Md_redex.2.1 7 = .ok (.iconst 2, 1) := by decide +kernel
theorem d_Md_redex_8 : decode m_Md_redex.2.1 8 = .ok (.if_icmp .ne 18, 3) := by decide +kernel
theorem d_Md_redex_11 : decode m_Md_redex.2.1 11 = .ok (.aload_n 0, 1) := by decide +kernel
theorem d_Md_redex_12 : decode m_Md_redex.2.1 12 = .ok (.bipush 40, 2) := by decide +kernel
theorem d_Md_redex_14 : decode m_Md_redex.2.1 14 = .ok (.iload_n 1, 1) := by decide +kernel
theorem d_Md_redex_15 : decode m_Md_redex.2.1 15 = .ok (.iconst 1, 1) := by decide +kernel
theorem d_Md_redex_16 : decode m_Md_redex.2.1 16 = .ok (.iadd, 1) := by decide +kernel
theorem d_Md_redex_17 : decode m_Md_redex.2.1 17 = .ok (.invokevirtual 49, 3) := by decide +kernel
theorem d_Md_redex_20 : decode m_Md_redex.2.1 20 = .ok (.iconst 3, 1) := by decide +kernel
theorem d_Md_redex_21 : decode m_Md_redex.2.1 21 = .ok (.if_icmp .ne 5, 3) := by decide +kernel
theorem d_Md_redex_24 : decode m_Md_redex.2.1 24 = .ok (.iconst (-1), 1) := by decide +kernel
theorem d_Md_redex_25 : decode m_Md_redex.2.1 25 = .ok (.ireturn, 1) := by decide +kernel
theorem d_Md_redex_26 : decode m_Md_redex.2.1 26 = .ok (.iconst 0, 1) := by decide +kernel
theorem d_Md_redex_27 : decode m_Md_redex.2.1 27 = .ok (.istore_n 2, 1) := by decide +kernel
theorem d_Md_redex_28 : decode m_Md_redex.2.1 28 = .ok (.iload_n 2, 1) := by decide +kernel
theorem d_Md_redex_29 : decode m_Md_redex.2.1 29 = .ok (.aload_n 0, 1) := by decide +kernel
theorem d_Md_redex_30 : decode m_Md_redex.2.1 30 = .ok (.getfield 75, 3) := by decide +kernel
theorem d_Md_redex_33 : decode m_Md_redex.2.1 33 = .ok (.if_icmp .ge 20, 3) := by decide +kernel
theorem d_Md_redex_36 : decode m_Md_redex.2.1 36 = .ok (.aload_n 0, 1) := by decide +kernel
theorem d_Md_redex_37 : decode m_Md_redex.2.1 37 = .ok (.iload_n 2, 1) := by decide +kernel
theorem d_Md_redex_38 : decode m_Md_redex.2.1 38 = .ok (.iload_n 1, 1) := by decide +kernel
theorem d_Md_redex_39 : decode m_Md_redex.2.1 39 = .ok (.invokevirtual 78, 3) := by decide +kernel
theorem d_Md_redex_42 : decode m_Md_redex.2.1 42 = .ok (.ifCond .eq 5, 3) := by decide +kernel
theorem d_Md_redex_45 : decode m_Md_redex.2.1 45 = .ok (.iload_n 2, 1) := by decide +kernel
theorem d_Md_redex_46 : decode m_Md_redex.2.1 46 = .ok (.ireturn, 1) := by decide +kernel
theorem d_Md_redex_47 : decode m_Md_redex.2.1 47 = .ok (.iinc 2 1, 3) := by decide +kernel
theorem d_Md_redex_50 : decode m_Md_redex.2.1 50 = .ok (.goto (-22), 3) := by decide +kernel
theorem d_Md_redex_53 : decode m_Md_redex.2.1 53 = .ok (.bipush (-2), 2) := by decide +kernel
theorem d_Md_redex_55 : decode m_Md_redex.2.1 55 = .ok (.ireturn, 1) := by decide +kernel
theorem d_Md_step_0 : decode m_Md_step.2.1 0 = .ok (.aload_n 0, 1) := by decide +kernel
theorem d_Md_step_1 : decode m_Md_step.2.1 1 = .ok (.bipush 40, 2) := by decide +kernel
theorem d_Md_step_3 : decode m_Md_step.2.1 3 = .ok (.iconst 0, 1) := by decide +kernel
theorem d_Md_step_4 : decode m_Md_step.2.1 4 = .ok (.invokevirtual 71, 3) := by decide +kernel
theorem d_Md_step_7 : decode m_Md_step.2.1 7 = .ok (.aload_n 0, 1) := by decide +kernel
theorem d_Md_step_8 : decode m_Md_step.2.1 8 = .ok (.getfield 13, 3) := by decide +kernel
theorem d_Md_step_11 : decode m_Md_step.2.1 11 = .ok (.bipush 41, 2) := by decide +kernel
theorem d_Md_step_13 : decode m_Md_step.2.1 13 = .ok (.iconst 0, 1) := by decide +kernel
theorem d_Md_step_14 : decode m_Md_step.2.1 14 = .ok (.iastore, 1) := by decide +kernel
theorem d_Md_step_15 : decode m_Md_step.2.1 15 = .ok (.iconst 0, 1) := by decide +kernel
theorem d_Md_step_16 : decode m_Md_step.2.1 16 = .ok (.istore_n 3, 1) := by decide +kernel
theorem d_Md_step_17 : decode m_Md_step.2.1 17 = .ok (.iload_n 3, 1) := by decide +kernel
theorem d_Md_step_18 : decode m_Md_step.2.1 18 = .ok (.iload_n 1, 1) := by decide +kernel
theorem d_Md_step_19 : decode m_Md_step.2.1 19 = .ok (.if_icmp .ge 22, 3) := by decide +kernel
theorem d_Md_step_22 : decode m_Md_step.2.1 22 = .ok (.aload_n 0, 1) := by decide +kernel
theorem d_Md_step_23 : decode m_Md_step.2.1 23 = .ok (.bipush 41, 2) := by decide +kernel
theorem d_Md_step_25 : decode m_Md_step.2.1 25 = .ok (.aload_n 0, 1) := by decide +kernel
theorem d_Md_step_26 : decode m_Md_step.2.1 26 = .ok (.bipush 40, 2) := by decide +kernel
theorem d_Md_step_28 : decode m_Md_step.2.1 28 = .ok (.iload_n 3, 1) := by decide +kernel
theorem d_Md_step_29 : decode m_Md_step.2.1 29 = .ok (.invokevirtual 49, 3) := by decide +kernel
theorem d_Md_step_32 : decode m_Md_step.2.1 32 = .ok (.invokevirtual 53, 3) := by decide +kernel
theorem d_Md_step_35 : decode m_Md_step.2.1 35 = .ok (.iinc 3 1, 3) := by decide +kernel
theorem d_Md_step_38 : decode m_Md_step.2.1 38 = .ok (.goto (-21), 3) := by decide +kernel
theorem d_Md_step_41 : decode m_Md_step.2.1 41 = .ok (.aload_n 0, 1) := by decide +kernel
theorem d_Md_step_42 : decode m_Md_step.2.1 42 = .ok (.bipush 40, 2) := by decide +kernel
theorem d_Md_step_44 : decode m_Md_step.2.1 44 = .ok (.iload_n 1, 1) := by decide +kernel
theorem d_Md_step_45 : decode m_Md_step.2.1 45 = .ok (.invokevirtual 68, 3) := by decide +kernel
theorem d_Md_step_48 : decode m_Md_step.2.1 48 = .ok (.istore_n 3, 1) := by decide +kernel
theorem d_Md_step_49 : decode m_Md_step.2.1 49 = .ok (.iload_n 2, 1) := by decide +kernel
theorem d_Md_step_50 : decode m_Md_step.2.1 50 = .ok (.iconst (-1), 1) := by decide +kernel
theorem d_Md_step_51 : decode m_Md_step.2.1 51 = .ok (.if_icmp .ne 42, 3) := by decide +kernel
theorem d_Md_step_54 : decode m_Md_step.2.1 54 = .ok (.aload_n 0, 1) := by decide +kernel
theorem d_Md_step_55 : decode m_Md_step.2.1 55 = .ok (.bipush 40, 2) := by decide +kernel
theorem d_Md_step_57 : decode m_Md_step.2.1 57 = .ok (.iload_n 1, 1) := by decide +kernel
theorem d_Md_step_58 : decode m_Md_step.2.1 58 = .ok (.iconst 2, 1) := by decide +kernel
theorem d_Md_step_59 : decode m_Md_step.2.1 59 = .ok (.iadd, 1) := by decide +kernel
theorem d_Md_step_60 : decode m_Md_step.2.1 60 = .ok (.invokevirtual 68, 3) := by decide +kernel
theorem d_Md_step_63 : decode m_Md_step.2.1 63 = .ok (.istore 4, 2) := by decide +kernel
theorem d_Md_step_65 : decode m_Md_step.2.1 65 = .ok (.aload_n 0, 1) := by decide +kernel
theorem d_Md_step_66 : decode m_Md_step.2.1 66 = .ok (.bipush 40, 2) := by decide +kernel
theorem d_Md_step_68 : decode m_Md_step.2.1 68 = .ok (.iload 4, 2) := by decide +kernel
theorem d_Md_step_70 : decode m_Md_step.2.1 70 = .ok (.invokevirtual 68, 3) := by decide +kernel
theorem d_Md_step_73 : decode m_Md_step.2.1 73 = .ok (.istore 5, 2) := by decide +kernel
theorem d_Md_step_75 : decode m_Md_step.2.1 75 = .ok (.aload_n 0, 1) := by decide +kernel
theorem d_Md_step_76 : decode m_Md_step.2.1 76 = .ok (.bipush 41, 2) := by decide +kernel
theorem d_Md_step_78 : decode m_Md_step.2.1 78 = .ok (.bipush 40, 2) := by decide +kernel
theorem d_Md_step_80 : decode m_Md_step.2.1 80 = .ok (.iload 4, 2) := by decide +kernel
theorem d_Md_step_82 : decode m_Md_step.2.1 82 = .ok (.iload 5, 2) := by decide +kernel
theorem d_Md_step_84 : decode m_Md_step.2.1 84 = .ok (.iload 5, 2) := by decide +kernel
theorem d_Md_step_86 : decode m_Md_step.2.1 86 = .ok (.iload_n 3, 1) := by decide +kernel
theorem d_Md_step_87 : decode m_Md_step.2.1 87 = .ok (.invokevirtual 82, 3) := by decide +kernel
theorem d_Md_step_90 : decode m_Md_step.2.1 90 = .ok (.goto 8, 3) := by decide +kernel
theorem d_Md_step_93 : decode m_Md_step.2.1 93 = .ok (.aload_n 0, 1) := by decide +kernel
theorem d_Md_step_94 : decode m_Md_step.2.1 94 = .ok (.iload_n 2, 1) := by decide +kernel
theorem d_Md_step_95 : decode m_Md_step.2.1 95 = .ok (.invokevirtual 86, 3) := by decide +kernel
theorem d_Md_step_98 : decode m_Md_step.2.1 98 = .ok (.iload_n 3, 1) := by decide +kernel
theorem d_Md_step_99 : decode m_Md_step.2.1 99 = .ok (.istore 4, 2) := by decide +kernel
theorem d_Md_step_101 : decode m_Md_step.2.1 101 = .ok (.iload 4, 2) := by decide +kernel
theorem d_Md_step_103 : decode m_Md_step.2.1 103 = .ok (.aload_n 0, 1) := by decide +kernel
theorem d_Md_step_104 : decode m_Md_step.2.1 104 = .ok (.getfield 13, 3) := by decide +kernel
theorem d_Md_step_107 : decode m_Md_step.2.1 107 = .ok (.bipush 40, 2) := by decide +kernel
theorem d_Md_step_109 : decode m_Md_step.2.1 109 = .ok (.iaload, 1) := by decide +kernel
theorem d_Md_step_110 : decode m_Md_step.2.1 110 = .ok (.if_icmp .ge 23, 3) := by decide +kernel
theorem d_Md_step_113 : decode m_Md_step.2.1 113 = .ok (.aload_n 0, 1) := by decide +kernel
theorem d_Md_step_114 : decode m_Md_step.2.1 114 = .ok (.bipush 41, 2) := by decide +kernel
theorem d_Md_step_116 : decode m_Md_step.2.1 116 = .ok (.aload_n 0, 1) := by decide +kernel
theorem d_Md_step_117 : decode m_Md_step.2.1 117 = .ok (.bipush 40, 2) := by decide +kernel
theorem d_Md_step_119 : decode m_Md_step.2.1 119 = .ok (.iload 4, 2) := by decide +kernel
theorem d_Md_step_121 : decode m_Md_step.2.1 121 = .ok (.invokevirtual 49, 3) := by decide +kernel
theorem d_Md_step_124 : decode m_Md_step.2.1 124 = .ok (.invokevirtual 53, 3) := by decide +kernel
theorem d_Md_step_127 : decode m_Md_step.2.1 127 = .ok (.iinc 4 1, 3) := by decide +kernel
theorem d_Md_step_130 : decode m_Md_step.2.1 130 = .ok (.goto (-29), 3) := by decide +kernel
theorem d_Md_step_133 : decode m_Md_step.2.1 133 = .ok (.aload_n 0, 1) := by decide +kernel
theorem d_Md_step_134 : decode m_Md_step.2.1 134 = .ok (.bipush 41, 2) := by decide +kernel
theorem d_Md_step_136 : decode m_Md_step.2.1 136 = .ok (.bipush 40, 2) := by decide +kernel
theorem d_Md_step_138 : decode m_Md_step.2.1 138 = .ok (.invokevirtual 90, 3) := by decide +kernel
theorem d_Md_step_141 : decode m_Md_step.2.1 141 = .ok (.return_, 1) := by decide +kernel
theorem d_Md_normalise_0 : decode m_Md_normalise.2.1 0 = .ok (.iconst 0, 1) := by decide +kernel
theorem d_Md_normalise_1 : decode m_Md_normalise.2.1 1 = .ok (.istore_n 1, 1) := by decide +kernel
theorem d_Md_normalise_2 : decode m_Md_normalise.2.1 2 = .ok (.iconst 0, 1) := by decide +kernel
theorem d_Md_normalise_3 : decode m_Md_normalise.2.1 3 = .ok (.istore_n 2, 1) := by decide +kernel
theorem d_Md_normalise_4 : decode m_Md_normalise.2.1 4 = .ok (.iload_n 2, 1) := by decide +kernel
theorem d_Md_normalise_5 : decode m_Md_normalise.2.1 5 = .ok (.aload_n 0, 1) := by decide +kernel
theorem d_Md_normalise_6 : decode m_Md_normalise.2.1 6 = .ok (.getfield 13, 3) := by decide +kernel
theorem d_Md_normalise_9 : decode m_Md_normalise.2.1 9 = .ok (.bipush 40, 2) := by decide +kernel
theorem d_Md_normalise_11 : decode m_Md_normalise.2.1 11 = .ok (.iaload, 1) := by decide +kernel
theorem d_Md_normalise_12 : decode m_Md_normalise.2.1 12 = .ok (.if_icmp .ge 56, 3) := by decide +kernel
theorem d_Md_normalise_15 : decode m_Md_normalise.2.1 15 = .ok (.aload_n 0, 1) := by decide +kernel
theorem d_Md_normalise_16 : decode m_Md_normalise.2.1 16 = .ok (.getfield 45, 3) := by decide +kernel
theorem d_Md_normalise_19 : decode m_Md_normalise.2.1 19 = .ok (.ifCond .ne 49, 3) := by decide +kernel
theorem d_Md_normalise_22 : decode m_Md_normalise.2.1 22 = .ok (.aload_n 0, 1) := by decide +kernel
theorem d_Md_normalise_23 : decode m_Md_normalise.2.1 23 = .ok (.iload_n 2, 1) := by decide +kernel
theorem d_Md_normalise_24 : decode m_Md_normalise.2.1 24 = .ok (.invokevirtual 93, 3) := by decide +kernel
theorem d_Md_normalise_27 : decode m_Md_normalise.2.1 27 = .ok (.istore_n 3, 1) := by decide +kernel
theorem d_Md_normalise_28 : decode m_Md_normalise.2.1 28 = .ok (.iload_n 3, 1) := by decide +kernel
theorem d_Md_normalise_29 : decode m_Md_normalise.2.1 29 = .ok (.bipush (-2), 2) := by decide +kernel
theorem d_Md_normalise_31 : decode m_Md_normalise.2.1 31 = .ok (.if_icmp .ne 9, 3) := by decide +kernel
theorem d_Md_normalise_34 : decode m_Md_normalise.2.1 34 = .ok (.iinc 2 1, 3) := by decide +kernel
theorem d_Md_normalise_37 : decode m_Md_normalise.2.1 37 = .ok (.goto 28, 3) := by decide +kernel
theorem d_Md_normalise_40 : decode m_Md_normalise.2.1 40 = .ok (.iload_n 1, 1) := by decide +kernel
theorem d_Md_normalise_41 : decode m_Md_normalise.2.1 41 = .ok (.bipush 50, 2) := by decide +kernel
theorem d_Md_normalise_43 : decode m_Md_normalise.2.1 43 = .ok (.if_icmp .ne 11, 3) := by decide +kernel
theorem d_Md_normalise_46 : decode m_Md_normalise.2.1 46 = .ok (.aload_n 0, 1) := by decide +kernel
theorem d_Md_normalise_47 : decode m_Md_normalise.2.1 47 = .ok (.iconst 1, 1) := by decide +kernel
theorem d_Md_normalise_48 : decode m_Md_normalise.2.1 48 = .ok (.putfield 45, 3) := by decide +kernel
theorem d_Md_normalise_51 : decode m_Md_normalise.2.1 51 = .ok (.goto 14, 3) := by decide +kernel
theorem d_Md_normalise_54 : decode m_Md_normalise.2.1 54 = .ok (.aload_n 0, 1) := by decide +kernel
theorem d_Md_normalise_55 : decode m_Md_normalise.2.1 55 = .ok (.iload_n 2, 1) := by decide +kernel
theorem d_Md_normalise_56 : decode m_Md_normalise.2.1 56 = .ok (.iload_n 3, 1) := by decide +kernel
theorem d_Md_normalise_57 : decode m_Md_normalise.2.1 57 = .ok (.invokevirtual 97, 3) := by decide +kernel
theorem d_Md_normalise_60 : decode m_Md_normalise.2.1 60 = .ok (.iinc 1 1, 3) := by decide +kernel
theorem d_Md_normalise_63 : decode m_Md_normalise.2.1 63 = .ok (.iconst 0, 1) := by decide +kernel
theorem d_Md_normalise_64 : decode m_Md_normalise.2.1 64 = .ok (.istore_n 2, 1) := by decide +kernel
theorem d_Md_normalise_65 : decode m_Md_normalise.2.1 65 = .ok (.goto (-61), 3) := by decide +kernel
theorem d_Md_normalise_68 : decode m_Md_normalise.2.1 68 = .ok (.iload_n 1, 1) := by decide +kernel
theorem d_Md_normalise_69 : decode m_Md_normalise.2.1 69 = .ok (.ireturn, 1) := by decide +kernel
theorem d_Md_normalOf_0 : decode m_Md_normalOf.2.1 0 = .ok (.aload_n 0, 1) := by decide +kernel
theorem d_Md_normalOf_1 : decode m_Md_normalOf.2.1 1 = .ok (.iload_n 1, 1) := by decide +kernel
theorem d_Md_normalOf_2 : decode m_Md_normalOf.2.1 2 = .ok (.bipush 40, 2) := by decide +kernel
theorem d_Md_normalOf_4 : decode m_Md_normalOf.2.1 4 = .ok (.invokevirtual 90, 3) := by decide +kernel
theorem d_Md_normalOf_7 : decode m_Md_normalOf.2.1 7 = .ok (.aload_n 0, 1) := by decide +kernel
theorem d_Md_normalOf_8 : decode m_Md_normalOf.2.1 8 = .ok (.invokevirtual 100, 3) := by decide +kernel
theorem d_Md_normalOf_11 : decode m_Md_normalOf.2.1 11 = .ok (.ireturn, 1) := by decide +kernel
theorem d_Md_present_0 : decode m_Md_present.2.1 0 = .ok (.iload_n 1, 1) := by decide +kernel
theorem d_Md_present_1 : decode m_Md_present.2.1 1 = .ok (.ifCond .lt 20, 3) := by decide +kernel
theorem d_Md_present_4 : decode m_Md_present.2.1 4 = .ok (.aload_n 0, 1) := by decide +kernel
theorem d_Md_present_5 : decode m_Md_present.2.1 5 = .ok (.getfield 16, 3) := by decide +kernel
theorem d_Md_present_8 : decode m_Md_present.2.1 8 = .ok (.iload_n 1, 1) := by decide +kernel
theorem d_Md_present_9 : decode m_Md_present.2.1 9 = .ok (.iaload, 1) := by decide +kernel
theorem d_Md_present_10 : decode m_Md_present.2.1 10 = .ok (.aload_n 0, 1) := by decide +kernel
theorem d_Md_present_11 : decode m_Md_present.2.1 11 = .ok (.getfield 104, 3) := by decide +kernel
theorem d_Md_present_14 : decode m_Md_present.2.1 14 = .ok (.if_icmp .ne 7, 3) := by decide +kernel
theorem d_Md_present_17 : decode m_Md_present.2.1 17 = .ok (.iconst 1, 1) := by decide +kernel
theorem d_Md_present_18 : decode m_Md_present.2.1 18 = .ok (.goto 4, 3) := by decide +kernel
theorem d_Md_present_21 : decode m_Md_present.2.1 21 = .ok (.iconst 0, 1) := by decide +kernel
theorem d_Md_present_22 : decode m_Md_present.2.1 22 = .ok (.ireturn, 1) := by decide +kernel
theorem d_Md_alone_0 : decode m_Md_alone.2.1 0 = .ok (.iconst 1, 1) := by decide +kernel
theorem d_Md_alone_1 : decode m_Md_alone.2.1 1 = .ok (.istore_n 1, 1) := by decide +kernel
theorem d_Md_alone_2 : decode m_Md_alone.2.1 2 = .ok (.iconst 0, 1) := by decide +kernel
theorem d_Md_alone_3 : decode m_Md_alone.2.1 3 = .ok (.istore_n 2, 1) := by decide +kernel
theorem d_Md_alone_4 : decode m_Md_alone.2.1 4 = .ok (.iload_n 2, 1) := by decide +kernel
theorem d_Md_alone_5 : decode m_Md_alone.2.1 5 = .ok (.aload_n 0, 1) := by decide +kernel
theorem d_Md_alone_6 : decode m_Md_alone.2.1 6 = .ok (.getfield 107, 3) := by decide +kernel
theorem d_Md_alone_9 : decode m_Md_alone.2.1 9 = .ok (.iconst 1, 1) := by decide +kernel
theorem d_Md_alone_10 : decode m_Md_alone.2.1 10 = .ok (.isub, 1) := by decide +kernel
theorem d_Md_alone_11 : decode m_Md_alone.2.1 11 = .ok (.if_icmp .ge 27, 3) := by decide +kernel
theorem d_Md_alone_14 : decode m_Md_alone.2.1 14 = .ok (.iload_n 1, 1) := by decide +kernel
theorem d_Md_alone_15 : decode m_Md_alone.2.1 15 = .ok (.ifCond .eq 15, 3) := by decide +kernel
theorem d_Md_alone_18 : decode m_Md_alone.2.1 18 = .ok (.aload_n 0, 1) := by decide +kernel
theorem d_Md_alone_19 : decode m_Md_alone.2.1 19 = .ok (.iload_n 2, 1) := by decide +kernel
theorem d_Md_alone_20 : decode m_Md_alone.2.1 20 = .ok (.invokevirtual 110, 3) := by decide +kernel
theorem d_Md_alone_23 : decode m_Md_alone.2.1 23 = .ok (.ifCond .ne 7, 3) := by decide +kernel
theorem d_Md_alone_26 : decode m_Md_alone.2.1 26 = .ok (.iconst 1, 1) := by decide +kernel
theorem d_Md_alone_27 : decode m_Md_alone.2.1 27 = .ok (.goto 4, 3) := by decide +kernel
theorem d_Md_alone_30 : decode m_Md_alone.2.1 30 = .ok (.iconst 0, 1) := by decide +kernel
theorem d_Md_alone_31 : decode m_Md_alone.2.1 31 = .ok (.istore_n 1, 1) := by decide +kernel
theorem d_Md_alone_32 : decode m_Md_alone.2.1 32 = .ok (.iinc 2 1, 3) := by decide +kernel
theorem d_Md_alone_35 : decode m_Md_alone.2.1 35 = .ok (.goto (-31), 3) := by decide +kernel
theorem d_Md_alone_38 : decode m_Md_alone.2.1 38 = .ok (.iload_n 1, 1) := by decide +kernel
theorem d_Md_alone_39 : decode m_Md_alone.2.1 39 = .ok (.ireturn, 1) := by decide +kernel
theorem d_Md_push_0 : decode m_Md_push.2.1 0 = .ok (.aload_n 0, 1) := by decide +kernel
theorem d_Md_push_1 : decode m_Md_push.2.1 1 = .ok (.getfield 107, 3) := by decide +kernel
theorem d_Md_push_4 : decode m_Md_push.2.1 4 = .ok (.bipush 6, 2) := by decide +kernel
theorem d_Md_push_6 : decode m_Md_push.2.1 6 = .ok (.if_icmp .ne 5, 3) := by decide +kernel
theorem d_Md_push_9 : decode m_Md_push.2.1 9 = .ok (.iconst 0, 1) := by decide +kernel
theorem d_Md_push_10 : decode m_Md_push.2.1 10 = .ok (.ireturn, 1) := by decide +kernel
theorem d_Md_push_11 : decode m_Md_push.2.1 11 = .ok (.aload_n 0, 1) := by decide +kernel
theorem d_Md_push_12 : decode m_Md_push.2.1 12 = .ok (.getfield 13, 3) := by decide +kernel
theorem d_Md_push_15 : decode m_Md_push.2.1 15 = .ok (.iconst 0, 1) := by decide +kernel
theorem d_Md_push_16 : decode m_Md_push.2.1 16 = .ok (.aload_n 0, 1) := by decide +kernel
theorem d_Md_push_17 : decode m_Md_push.2.1 17 = .ok (.getfield 107, 3) := by decide +kernel
theorem d_Md_push_20 : decode m_Md_push.2.1 20 = .ok (.iadd, 1) := by decide +kernel
theorem d_Md_push_21 : decode m_Md_push.2.1 21 = .ok (.iconst 0, 1) := by decide +kernel
theorem d_Md_push_22 : decode m_Md_push.2.1 22 = .ok (.iastore, 1) := by decide +kernel
theorem d_Md_push_23 : decode m_Md_push.2.1 23 = .ok (.aload_n 0, 1) := by decide +kernel
theorem d_Md_push_24 : decode m_Md_push.2.1 24 = .ok (.getfield 13, 3) := by decide +kernel
theorem d_Md_push_27 : decode m_Md_push.2.1 27 = .ok (.bipush 6, 2) := by decide +kernel
theorem d_Md_push_29 : decode m_Md_push.2.1 29 = .ok (.aload_n 0, 1) := by decide +kernel
theorem d_Md_push_30 : decode m_Md_push.2.1 30 = .ok (.getfield 107, 3) := by decide +kernel
theorem d_Md_push_33 : decode m_Md_push.2.1 33 = .ok (.iadd, 1) := by decide +kernel
theorem d_Md_push_34 : decode m_Md_push.2.1 34 = .ok (.iconst 0, 1) := by decide +kernel
theorem d_Md_push_35 : decode m_Md_push.2.1 35 = .ok (.iastore, 1) := by decide +kernel
theorem d_Md_push_36 : decode m_Md_push.2.1 36 = .ok (.aload_n 0, 1) := by decide +kernel
theorem d_Md_push_37 : decode m_Md_push.2.1 37 = .ok (.getfield 16, 3) := by decide +kernel
theorem d_Md_push_40 : decode m_Md_push.2.1 40 = .ok (.aload_n 0, 1) := by decide +kernel
theorem d_Md_push_41 : decode m_Md_push.2.1 41 = .ok (.getfield 107, 3) := by decide +kernel
theorem d_Md_push_44 : decode m_Md_push.2.1 44 = .ok (.aload_n 0, 1) := by decide +kernel
theorem d_Md_push_45 : decode m_Md_push.2.1 45 = .ok (.getfield 104, 3) := by decide +kernel
theorem d_Md_push_48 : decode m_Md_push.2.1 48 = .ok (.iastore, 1) := by decide +kernel
theorem d_Md_push_49 : decode m_Md_push.2.1 49 = .ok (.aload_n 0, 1) := by decide +kernel
theorem d_Md_push_50 : decode m_Md_push.2.1 50 = .ok (.dup, 1) := by decide +kernel
theorem d_Md_push_51 : decode m_Md_push.2.1 51 = .ok (.getfield 107, 3) := by decide +kernel
theorem d_Md_push_54 : decode m_Md_push.2.1 54 = .ok (.iconst 1, 1) := by decide +kernel
theorem d_Md_push_55 : decode m_Md_push.2.1 55 = .ok (.iadd, 1) := by decide +kernel
theorem d_Md_push_56 : decode m_Md_push.2.1 56 = .ok (.putfield 107, 3) := by decide +kernel
theorem d_Md_push_59 : decode m_Md_push.2.1 59 = .ok (.iconst 1, 1) := by decide +kernel
theorem d_Md_push_60 : decode m_Md_push.2.1 60 = .ok (.ireturn, 1) := by decide +kernel
theorem d_Md_sort_0 : decode m_Md_sort.2.1 0 = .ok (.aload_n 0, 1) := by decide +kernel
theorem d_Md_sort_1 : decode m_Md_sort.2.1 1 = .ok (.aload_n 0, 1) := by decide +kernel
theorem d_Md_sort_2 : decode m_Md_sort.2.1 2 = .ok (.invokevirtual 113, 3) := by decide +kernel
theorem d_Md_sort_5 : decode m_Md_sort.2.1 5 = .ok (.ifCond .eq 7, 3) := by decide +kernel
theorem d_Md_sort_8 : decode m_Md_sort.2.1 8 = .ok (.iconst 0, 1) := by decide +kernel
theorem d_Md_sort_9 : decode m_Md_sort.2.1 9 = .ok (.goto 4, 3) := by decide +kernel
theorem d_Md_sort_12 : decode m_Md_sort.2.1 12 = .ok (.iconst 1, 1) := by decide +kernel
theorem d_Md_sort_13 : decode m_Md_sort.2.1 13 = .ok (.putfield 41, 3) := by decide +kernel
theorem d_Md_sort_16 : decode m_Md_sort.2.1 16 = .ok (.aload_n 0, 1) := by decide +kernel
theorem d_Md_sort_17 : decode m_Md_sort.2.1 17 = .ok (.getfield 41, 3) := by decide +kernel
theorem d_Md_sort_20 : decode m_Md_sort.2.1 20 = .ok (.ifCond .ne 30, 3) := by decide +kernel
theorem d_Md_sort_23 : decode m_Md_sort.2.1 23 = .ok (.aload_n 0, 1) := by decide +kernel
theorem d_Md_sort_24 : decode m_Md_sort.2.1 24 = .ok (.iconst 0, 1) := by decide +kernel
theorem d_Md_sort_25 : decode m_Md_sort.2.1 25 = .ok (.aload_n 0, 1) := by decide +kernel
theorem d_Md_sort_26 : decode m_Md_sort.2.1 26 = .ok (.getfield 107, 3) := by decide +kernel
theorem d_Md_sort_29 : decode m_Md_sort.2.1 29 = .ok (.iadd, 1) := by decide +kernel
theorem d_Md_sort_30 : decode m_Md_sort.2.1 30 = .ok (.iconst 1, 1) := by decide +kernel
theorem d_Md_sort_31 : decode m_Md_sort.2.1 31 = .ok (.isub, 1) := by decide +kernel
theorem d_Md_sort_32 : decode m_Md_sort.2.1 32 = .ok (.iconst 0, 1) := by decide +kernel
theorem d_Md_sort_33 : decode m_Md_sort.2.1 33 = .ok (.invokevirtual 53, 3) := by decide +kernel
theorem d_Md_sort_36 : decode m_Md_sort.2.1 36 = .ok (.aload_n 0, 1) := by decide +kernel
theorem d_Md_sort_37 : decode m_Md_sort.2.1 37 = .ok (.bipush 6, 2) := by decide +kernel
theorem d_Md_sort_39 : decode m_Md_sort.2.1 39 = .ok (.aload_n 0, 1) := by decide +kernel
theorem d_Md_sort_40 : decode m_Md_sort.2.1 40 = .ok (.getfield 107, 3) := by decide +kernel
theorem d_Md_sort_43 : decode m_Md_sort.2.1 43 = .ok (.iadd, 1) := by decide +kernel
theorem d_Md_sort_44 : decode m_Md_sort.2.1 44 = .ok (.iconst 1, 1) := by decide +kernel
theorem d_Md_sort_45 : decode m_Md_sort.2.1 45 = .ok (.isub, 1) := by decide +kernel
theorem d_Md_sort_46 : decode m_Md_sort.2.1 46 = .ok (.iconst 1, 1) := by decide +kernel
theorem d_Md_sort_47 : decode m_Md_sort.2.1 47 = .ok (.invokevirtual 53, 3) := by decide +kernel
theorem d_Md_sort_50 : decode m_Md_sort.2.1 50 = .ok (.return_, 1) := by decide +kernel
theorem d_Md_constant_0 : decode m_Md_constant.2.1 0 = .ok (.aload_n 0, 1) := by decide +kernel
theorem d_Md_constant_1 : decode m_Md_constant.2.1 1 = .ok (.iload_n 1, 1) := by decide +kernel
theorem d_Md_constant_2 : decode m_Md_constant.2.1 2 = .ok (.ifCond .lt 11, 3) := by decide +kernel
theorem d_Md_constant_5 : decode m_Md_constant.2.1 5 = .ok (.iload_n 1, 1) := by decide +kernel
theorem d_Md_constant_6 : decode m_Md_constant.2.1 6 = .ok (.aload_n 0, 1) := by decide +kernel
theorem d_Md_constant_7 : decode m_Md_constant.2.1 7 = .ok (.getfield 117, 3) := by decide +kernel
theorem d_Md_constant_10 : decode m_Md_constant.2.1 10 = .ok (.if_icmp .lt 7, 3) := by decide +kernel
theorem d_Md_constant_13 : decode m_Md_constant.2.1 13 = .ok (.iconst 1, 1) := by decide +kernel
theorem d_Md_constant_14 : decode m_Md_constant.2.1 14 = .ok (.goto 15, 3) := by decide +kernel
theorem d_Md_constant_17 : decode m_Md_constant.2.1 17 = .ok (.aload_n 0, 1) := by decide +kernel
theorem d_Md_constant_18 : decode m_Md_constant.2.1 18 = .ok (.invokevirtual 113, 3) := by decide +kernel
theorem d_Md_constant_21 : decode m_Md_constant.2.1 21 = .ok (.ifCond .eq 7, 3) := by decide +kernel
theorem d_Md_constant_24 : decode m_Md_constant.2.1 24 = .ok (.iconst 0, 1) := by decide +kernel
theorem d_Md_constant_25 : decode m_Md_constant.2.1 25 = .ok (.goto 4, 3) := by decide +kernel
theorem d_Md_constant_28 : decode m_Md_constant.2.1 28 = .ok (.iconst 2, 1) := by decide +kernel
theorem d_Md_constant_29 : decode m_Md_constant.2.1 29 = .ok (.putfield 41, 3) := by decide +kernel
theorem d_Md_constant_32 : decode m_Md_constant.2.1 32 = .ok (.aload_n 0, 1) := by decide +kernel
theorem d_Md_constant_33 : decode m_Md_constant.2.1 33 = .ok (.getfield 41, 3) := by decide +kernel
theorem d_Md_constant_36 : decode m_Md_constant.2.1 36 = .ok (.ifCond .ne 36, 3) := by decide +kernel
theorem d_Md_constant_39 : decode m_Md_constant.2.1 39 = .ok (.aload_n 0, 1) := by decide +kernel
theorem d_Md_constant_40 : decode m_Md_constant.2.1 40 = .ok (.iconst 0, 1) := by decide +kernel
theorem d_Md_constant_41 : decode m_Md_constant.2.1 41 = .ok (.aload_n 0, 1) := by decide +kernel
theorem d_Md_constant_42 : decode m_Md_constant.2.1 42 = .ok (.getfield 107, 3) := by decide +kernel
theorem d_Md_constant_45 : decode m_Md_constant.2.1 45 = .ok (.iadd, 1) := by decide +kernel
theorem d_Md_constant_46 : decode m_Md_constant.2.1 46 = .ok (.iconst 1, 1) := by decide +kernel
theorem d_Md_constant_47 : decode m_Md_constant.2.1 47 = .ok (.isub, 1) := by decide +kernel
theorem d_Md_constant_48 : decode m_Md_constant.2.1 48 = .ok (.bipush 10, 2) := by decide +kernel
theorem d_Md_constant_50 : decode m_Md_constant.2.1 50 = .ok (.iload_n 1, 1) := by decide +kernel
theorem d_Md_constant_51 : decode m_Md_constant.2.1 51 = .ok (.iadd, 1) := by decide +kernel
theorem d_Md_constant_52 : decode m_Md_constant.2.1 52 = .ok (.invokevirtual 53, 3) := by decide +kernel
theorem d_Md_constant_55 : decode m_Md_constant.2.1 55 = .ok (.aload_n 0, 1) := by decide +kernel
theorem d_Md_constant_56 : decode m_Md_constant.2.1 56 = .ok (.bipush 6, 2) := by decide +kernel
theorem d_Md_constant_58 : decode m_Md_constant.2.1 58 = .ok (.aload_n 0, 1) := by decide +kernel
theorem d_Md_constant_59 : decode m_Md_constant.2.1 59 = .ok (.getfield 107, 3) := by decide +kernel
theorem d_Md_constant_62 : decode m_Md_constant.2.1 62 = .ok (.iadd, 1) := by decide +kernel
theorem d_Md_constant_63 : decode m_Md_constant.2.1 63 = .ok (.iconst 1, 1) := by decide +kernel
theorem d_Md_constant_64 : decode m_Md_constant.2.1 64 = .ok (.isub, 1) := by decide +kernel
theorem d_Md_constant_65 : decode m_Md_constant.2.1 65 = .ok (.bipush 16, 2) := by decide +kernel
theorem d_Md_constant_67 : decode m_Md_constant.2.1 67 = .ok (.iload_n 1, 1) := by decide +kernel
theorem d_Md_constant_68 : decode m_Md_constant.2.1 68 = .ok (.iadd, 1) := by decide +kernel
theorem d_Md_constant_69 : decode m_Md_constant.2.1 69 = .ok (.invokevirtual 57, 3) := by decide +kernel
theorem d_Md_constant_72 : decode m_Md_constant.2.1 72 = .ok (.return_, 1) := by decide +kernel
theorem d_Md_variable_0 : decode m_Md_variable.2.1 0 = .ok (.aload_n 0, 1) := by decide +kernel
theorem d_Md_variable_1 : decode m_Md_variable.2.1 1 = .ok (.iload_n 1, 1) := by decide +kernel
theorem d_Md_variable_2 : decode m_Md_variable.2.1 2 = .ok (.ifCond .lt 11, 3) := by decide +kernel
theorem d_Md_variable_5 : decode m_Md_variable.2.1 5 = .ok (.iload_n 1, 1) := by decide +kernel
theorem d_Md_variable_6 : decode m_Md_variable.2.1 6 = .ok (.aload_n 0, 1) := by decide +kernel
theorem d_Md_variable_7 : decode m_Md_variable.2.1 7 = .ok (.getfield 104, 3) := by decide +kernel
theorem d_Md_variable_10 : decode m_Md_variable.2.1 10 = .ok (.if_icmp .lt 7, 3) := by decide +kernel
theorem d_Md_variable_13 : decode m_Md_variable.2.1 13 = .ok (.iconst 1, 1) := by decide +kernel
theorem d_Md_variable_14 : decode m_Md_variable.2.1 14 = .ok (.goto 15, 3) := by decide +kernel
theorem d_Md_variable_17 : decode m_Md_variable.2.1 17 = .ok (.aload_n 0, 1) := by decide +kernel
theorem d_Md_variable_18 : decode m_Md_variable.2.1 18 = .ok (.invokevirtual 113, 3) := by decide +kernel
theorem d_Md_variable_21 : decode m_Md_variable.2.1 21 = .ok (.ifCond .eq 7, 3) := by decide +kernel
theorem d_Md_variable_24 : decode m_Md_variable.2.1 24 = .ok (.iconst 0, 1) := by decide +kernel
theorem d_Md_variable_25 : decode m_Md_variable.2.1 25 = .ok (.goto 4, 3) := by decide +kernel
theorem d_Md_variable_28 : decode m_Md_variable.2.1 28 = .ok (.iconst 2, 1) := by decide +kernel
theorem d_Md_variable_29 : decode m_Md_variable.2.1 29 = .ok (.putfield 41, 3) := by decide +kernel
theorem d_Md_variable_32 : decode m_Md_variable.2.1 32 = .ok (.aload_n 0, 1) := by decide +kernel
theorem d_Md_variable_33 : decode m_Md_variable.2.1 33 = .ok (.getfield 41, 3) := by decide +kernel
theorem d_Md_variable_36 : decode m_Md_variable.2.1 36 = .ok (.ifCond .ne 61, 3) := by decide +kernel
theorem d_Md_variable_39 : decode m_Md_variable.2.1 39 = .ok (.bipush 12, 2) := by decide +kernel
theorem d_Md_variable_41 : decode m_Md_variable.2.1 41 = .ok (.aload_n 0, 1) := by decide +kernel
theorem d_Md_variable_42 : decode m_Md_variable.2.1 42 = .ok (.getfield 104, 3) := by decide +kernel
theorem d_Md_variable_45 : decode m_Md_variable.2.1 45 = .ok (.iadd, 1) := by decide +kernel
theorem d_Md_variable_46 : decode m_Md_variable.2.1 46 = .ok (.iconst 1, 1) := by decide +kernel
theorem d_Md_variable_47 : decode m_Md_variable.2.1 47 = .ok (.isub, 1) := by decide +kernel
theorem d_Md_variable_48 : decode m_Md_variable.2.1 48 = .ok (.iload_n 1, 1) := by decide +kernel
theorem d_Md_variable_49 : decode m_Md_variable.2.1 49 = .ok (.isub, 1) := by decide +kernel
theorem d_Md_variable_50 : decode m_Md_variable.2.1 50 = .ok (.istore_n 2, 1) := by decide +kernel
theorem d_Md_variable_51 : decode m_Md_variable.2.1 51 = .ok (.aload_n 0, 1) := by decide +kernel
theorem d_Md_variable_52 : decode m_Md_variable.2.1 52 = .ok (.iconst 0, 1) := by decide +kernel
theorem d_Md_variable_53 : decode m_Md_variable.2.1 53 = .ok (.aload_n 0, 1) := by decide +kernel
theorem d_Md_variable_54 : decode m_Md_variable.2.1 54 = .ok (.getfield 107, 3) := by decide +kernel
theorem d_Md_variable_57 : decode m_Md_variable.2.1 57 = .ok (.iadd, 1) := by decide +kernel
theorem d_Md_variable_58 : decode m_Md_variable.2.1 58 = .ok (.iconst 1, 1) := by decide +kernel
theorem d_Md_variable_59 : decode m_Md_variable.2.1 59 = .ok (.isub, 1) := by decide +kernel
theorem d_Md_variable_60 : decode m_Md_variable.2.1 60 = .ok (.bipush 100, 2) := by decide +kernel
theorem d_Md_variable_62 : decode m_Md_variable.2.1 62 = .ok (.iload_n 1, 1) := by decide +kernel
theorem d_Md_variable_63 : decode m_Md_variable.2.1 63 = .ok (.iadd, 1) := by decide +kernel
theorem d_Md_variable_64 : decode m_Md_variable.2.1 64 = .ok (.invokevirtual 53, 3) := by decide +kernel
theorem d_Md_variable_67 : decode m_Md_variable.2.1 67 = .ok (.aload_n 0, 1) := by decide +kernel
theorem d_Md_variable_68 : decode m_Md_variable.2.1 68 = .ok (.iload_n 2, 1) := by decide +kernel
theorem d_Md_variable_69 : decode m_Md_variable.2.1 69 = .ok (.iconst 0, 1) := by decide +kernel
theorem d_Md_variable_70 : decode m_Md_variable.2.1 70 = .ok (.invokevirtual 71, 3) := by decide +kernel
theorem d_Md_variable_73 : decode m_Md_variable.2.1 73 = .ok (.aload_n 0, 1) := by decide +kernel
theorem d_Md_variable_74 : decode m_Md_variable.2.1 74 = .ok (.bipush 6, 2) := by decide +kernel
theorem d_Md_variable_76 : decode m_Md_variable.2.1 76 = .ok (.aload_n 0, 1) := by decide +kernel
theorem d_Md_variable_77 : decode m_Md_variable.2.1 77 = .ok (.getfield 107, 3) := by decide +kernel
theorem d_Md_variable_80 : decode m_Md_variable.2.1 80 = .ok (.iadd, 1) := by decide +kernel
theorem d_Md_variable_81 : decode m_Md_variable.2.1 81 = .ok (.iconst 1, 1) := by decide +kernel
theorem d_Md_variable_82 : decode m_Md_variable.2.1 82 = .ok (.isub, 1) := by decide +kernel
theorem d_Md_variable_83 : decode m_Md_variable.2.1 83 = .ok (.iload_n 2, 1) := by decide +kernel
theorem d_Md_variable_84 : decode m_Md_variable.2.1 84 = .ok (.iconst 0, 1) := by decide +kernel
theorem d_Md_variable_85 : decode m_Md_variable.2.1 85 = .ok (.aload_n 0, 1) := by decide +kernel
theorem d_Md_variable_86 : decode m_Md_variable.2.1 86 = .ok (.getfield 13, 3) := by decide +kernel
theorem d_Md_variable_89 : decode m_Md_variable.2.1 89 = .ok (.iload_n 2, 1) := by decide +kernel
theorem d_Md_variable_90 : decode m_Md_variable.2.1 90 = .ok (.iaload, 1) := by decide +kernel
theorem d_Md_variable_91 : decode m_Md_variable.2.1 91 = .ok (.iload_n 1, 1) := by decide +kernel
theorem d_Md_variable_92 : decode m_Md_variable.2.1 92 = .ok (.iconst 1, 1) := by decide +kernel
theorem d_Md_variable_93 : decode m_Md_variable.2.1 93 = .ok (.iadd, 1) := by decide +kernel
theorem d_Md_variable_94 : decode m_Md_variable.2.1 94 = .ok (.invokevirtual 64, 3) := by decide +kernel
theorem d_Md_variable_97 : decode m_Md_variable.2.1 97 = .ok (.return_, 1) := by decide +kernel
theorem d_Md_applied_0 : decode m_Md_applied.2.1 0 = .ok (.aload_n 0, 1) := by decide +kernel
theorem d_Md_applied_1 : decode m_Md_applied.2.1 1 = .ok (.getfield 107, 3) := by decide +kernel
theorem d_Md_applied_4 : decode m_Md_applied.2.1 4 = .ok (.iconst 2, 1) := by decide +kernel
theorem d_Md_applied_5 : decode m_Md_applied.2.1 5 = .ok (.isub, 1) := by decide +kernel
theorem d_Md_applied_6 : decode m_Md_applied.2.1 6 = .ok (.istore_n 1, 1) := by decide +kernel
theorem d_Md_applied_7 : decode m_Md_applied.2.1 7 = .ok (.aload_n 0, 1) := by decide +kernel
theorem d_Md_applied_8 : decode m_Md_applied.2.1 8 = .ok (.getfield 107, 3) := by decide +kernel
theorem d_Md_applied_11 : decode m_Md_applied.2.1 11 = .ok (.iconst 1, 1) := by decide +kernel
theorem d_Md_applied_12 : decode m_Md_applied.2.1 12 = .ok (.isub, 1) := by decide +kernel
theorem d_Md_applied_13 : decode m_Md_applied.2.1 13 = .ok (.istore_n 2, 1) := by decide +kernel
theorem d_Md_applied_14 : decode m_Md_applied.2.1 14 = .ok (.aload_n 0, 1) := by decide +kernel
theorem d_Md_applied_15 : decode m_Md_applied.2.1 15 = .ok (.iload_n 1, 1) := by decide +kernel
theorem d_Md_applied_16 : decode m_Md_applied.2.1 16 = .ok (.invokevirtual 110, 3) := by decide +kernel
theorem d_Md_applied_19 : decode m_Md_applied.2.1 19 = .ok (.ifCond .eq 11, 3) := by decide +kernel
theorem d_Md_applied_22 : decode m_Md_applied.2.1 22 = .ok (.aload_n 0, 1) := by decide +kernel
theorem d_Md_applied_23 : decode m_Md_applied.2.1 23 = .ok (.iload_n 2, 1) := by decide +kernel
theorem d_Md_applied_24 : decode m_Md_applied.2.1 24 = .ok (.invokevirtual 110, 3) := by decide +kernel
theorem d_Md_applied_27 : decode m_Md_applied.2.1 27 = .ok (.ifCond .ne 5, 3) := by decide +kernel
theorem d_Md_applied_30 : decode m_Md_applied.2.1 30 = .ok (.iconst 1, 1) := by decide +kernel
theorem d_Md_applied_31 : decode m_Md_applied.2.1 31 = .ok (.ireturn, 1) := by decide +kernel
theorem d_Md_applied_32 : decode m_Md_applied.2.1 32 = .ok (.aload_n 0, 1) := by decide +kernel
theorem d_Md_applied_33 : decode m_Md_applied.2.1 33 = .ok (.iconst 0, 1) := by decide +kernel
theorem d_Md_applied_34 : decode m_Md_applied.2.1 34 = .ok (.putfield 45, 3) := by decide +kernel
theorem d_Md_applied_37 : decode m_Md_applied.2.1 37 = .ok (.aload_n 0, 1) := by decide +kernel
theorem d_Md_applied_38 : decode m_Md_applied.2.1 38 = .ok (.bipush 6, 2) := by decide +kernel
theorem d_Md_applied_40 : decode m_Md_applied.2.1 40 = .ok (.iload_n 1, 1) := by decide +kernel
theorem d_Md_applied_41 : decode m_Md_applied.2.1 41 = .ok (.iadd, 1) := by decide +kernel
theorem d_Md_applied_42 : decode m_Md_applied.2.1 42 = .ok (.invokevirtual 120, 3) := by decide +kernel
theorem d_Md_applied_45 : decode m_Md_applied.2.1 45 = .ok (.istore_n 3, 1) := by decide +kernel
theorem d_Md_applied_46 : decode m_Md_applied.2.1 46 = .ok (.aload_n 0, 1) := by decide +kernel
theorem d_Md_applied_47 : decode m_Md_applied.2.1 47 = .ok (.getfield 45, 3) := by decide +kernel
theorem d_Md_applied_50 : decode m_Md_applied.2.1 50 = .ok (.ifCond .eq 5, 3) := by decide +kernel
theorem d_Md_applied_53 : decode m_Md_applied.2.1 53 = .ok (.iconst 3, 1) := by decide +kernel
theorem d_Md_applied_54 : decode m_Md_applied.2.1 54 = .ok (.ireturn, 1) := by decide +kernel
theorem d_Md_applied_55 : decode m_Md_applied.2.1 55 = .ok (.aload_n 0, 1) := by decide +kernel
theorem d_Md_applied_56 : decode m_Md_applied.2.1 56 = .ok (.bipush 40, 2) := by decide +kernel
theorem d_Md_applied_58 : decode m_Md_applied.2.1 58 = .ok (.iconst 0, 1) := by decide +kernel
theorem d_Md_applied_59 : decode m_Md_applied.2.1 59 = .ok (.invokevirtual 49, 3) := by decide +kernel
theorem d_Md_applied_62 : decode m_Md_applied.2.1 62 = .ok (.iconst 4, 1) := by decide +kernel
theorem d_Md_applied_63 : decode m_Md_applied.2.1 63 = .ok (.if_icmp .eq 5, 3) := by decide +kernel
theorem d_Md_applied_66 : decode m_Md_applied.2.1 66 = .ok (.iconst 2, 1) := by decide +kernel
theorem d_Md_applied_67 : decode m_Md_applied.2.1 67 = .ok (.ireturn, 1) := by decide +kernel
theorem d_Md_applied_68 : decode m_Md_applied.2.1 68 = .ok (.aload_n 0, 1) := by decide +kernel
theorem d_Md_applied_69 : decode m_Md_applied.2.1 69 = .ok (.bipush 40, 2) := by decide +kernel
theorem d_Md_applied_71 : decode m_Md_applied.2.1 71 = .ok (.bipush 42, 2) := by decide +kernel
theorem d_Md_applied_73 : decode m_Md_applied.2.1 73 = .ok (.invokevirtual 90, 3) := by decide +kernel
theorem d_Md_applied_76 : decode m_Md_applied.2.1 76 = .ok (.aload_n 0, 1) := by decide +kernel
theorem d_Md_applied_77 : decode m_Md_applied.2.1 77 = .ok (.bipush 6, 2) := by decide +kernel
theorem d_Md_applied_79 : decode m_Md_applied.2.1 79 = .ok (.iload_n 2, 1) := by decide +kernel
theorem d_Md_applied_80 : decode m_Md_applied.2.1 80 = .ok (.iadd, 1) := by decide +kernel
theorem d_Md_applied_81 : decode m_Md_applied.2.1 81 = .ok (.invokevirtual 120, 3) := by decide +kernel
theorem d_Md_applied_84 : decode m_Md_applied.2.1 84 = .ok (.istore 4, 2) := by decide +kernel
theorem d_Md_applied_86 : decode m_Md_applied.2.1 86 = .ok (.aload_n 0, 1) := by decide +kernel
theorem d_Md_applied_87 : decode m_Md_applied.2.1 87 = .ok (.getfield 45, 3) := by decide +kernel
theorem d_Md_applied_90 : decode m_Md_applied.2.1 90 = .ok (.ifCond .eq 5, 3) := by decide +kernel
theorem d_Md_applied_93 : decode m_Md_applied.2.1 93 = .ok (.iconst 3, 1) := by decide +kernel
theorem d_Md_applied_94 : decode m_Md_applied.2.1 94 = .ok (.ireturn, 1) := by decide +kernel
theorem d_Md_applied_95 : decode m_Md_applied.2.1 95 = .ok (.aload_n 0, 1) := by decide +kernel
theorem d_Md_applied_96 : decode m_Md_applied.2.1 96 = .ok (.bipush 42, 2) := by decide +kernel
theorem d_Md_applied_98 : decode m_Md_applied.2.1 98 = .ok (.iconst 1, 1) := by decide +kernel
theorem d_Md_applied_99 : decode m_Md_applied.2.1 99 = .ok (.invokevirtual 68, 3) := by decide +kernel
theorem d_Md_applied_102 : decode m_Md_applied.2.1 102 = .ok (.istore 5, 2) := by decide +kernel
theorem d_Md_applied_104 : decode m_Md_applied.2.1 104 = .ok (.aload_n 0, 1) := by decide +kernel
theorem d_Md_applied_105 : decode m_Md_applied.2.1 105 = .ok (.getfield 13, 3) := by decide +kernel
theorem d_Md_applied_108 : decode m_Md_applied.2.1 108 = .ok (.bipush 40, 2) := by decide +kernel
theorem d_Md_applied_110 : decode m_Md_applied.2.1 110 = .ok (.iaload, 1) := by decide +kernel
theorem d_Md_applied_111 : decode m_Md_applied.2.1 111 = .ok (.iload 5, 2) := by decide +kernel
theorem d_Md_applied_113 : decode m_Md_applied.2.1 113 = .ok (.iconst 1, 1) := by decide +kernel
theorem d_Md_applied_114 : decode m_Md_applied.2.1 114 = .ok (.isub, 1) := by decide +kernel
theorem d_Md_applied_115 : decode m_Md_applied.2.1 115 = .ok (.if_icmp .ne 7, 3) := by decide +kernel
theorem d_Md_applied_118 : decode m_Md_applied.2.1 118 = .ok (.iconst 1, 1) := by decide +kernel
theorem d_Md_applied_119 : decode m_Md_applied.2.1 119 = .ok (.goto 4, 3) := by decide +kernel
theorem d_Md_applied_122 : decode m_Md_applied.2.1 122 = .ok (.iconst 0, 1) := by decide +kernel
theorem d_Md_applied_123 : decode m_Md_applied.2.1 123 = .ok (.istore 6, 2) := by decide +kernel
theorem d_Md_applied_125 : decode m_Md_applied.2.1 125 = .ok (.iconst 0, 1) := by decide +kernel
theorem d_Md_applied_126 : decode m_Md_applied.2.1 126 = .ok (.istore 7, 2) := by decide +kernel
theorem d_Md_applied_128 : decode m_Md_applied.2.1 128 = .ok (.iload 7, 2) := by decide +kernel
theorem d_Md_applied_130 : decode m_Md_applied.2.1 130 = .ok (.aload_n 0, 1) := by decide +kernel
theorem d_Md_applied_131 : decode m_Md_applied.2.1 131 = .ok (.getfield 13, 3) := by decide +kernel
theorem d_Md_applied_134 : decode m_Md_applied.2.1 134 = .ok (.bipush 40, 2) := by decide +kernel
theorem d_Md_applied_136 : decode m_Md_applied.2.1 136 = .ok (.iaload, 1) := by decide +kernel
theorem d_Md_applied_137 : decode m_Md_applied.2.1 137 = .ok (.if_icmp .ge 42, 3) := by decide +kernel
theorem d_Md_applied_140 : decode m_Md_applied.2.1 140 = .ok (.iload 6, 2) := by decide +kernel
theorem d_Md_applied_142 : decode m_Md_applied.2.1 142 = .ok (.ifCond .eq 37, 3) := by decide +kernel
theorem d_Md_applied_145 : decode m_Md_applied.2.1 145 = .ok (.aload_n 0, 1) := by decide +kernel
theorem d_Md_applied_146 : decode m_Md_applied.2.1 146 = .ok (.bipush 40, 2) := by decide +kernel
theorem d_Md_applied_148 : decode m_Md_applied.2.1 148 = .ok (.iload 7, 2) := by decide +kernel
theorem d_Md_applied_150 : decode m_Md_applied.2.1 150 = .ok (.invokevirtual 49, 3) := by decide +kernel
theorem d_Md_applied_153 : decode m_Md_applied.2.1 153 = .ok (.aload_n 0, 1) := by decide +kernel
theorem d_Md_applied_154 : decode m_Md_applied.2.1 154 = .ok (.bipush 42, 2) := by decide +kernel
theorem d_Md_applied_156 : decode m_Md_applied.2.1 156 = .ok (.iconst 1, 1) := by decide +kernel
theorem d_Md_applied_157 : decode m_Md_applied.2.1 157 = .ok (.iload 7, 2) := by decide +kernel
theorem d_Md_applied_159 : decode m_Md_applied.2.1 159 = .ok (.iadd, 1) := by decide +kernel
theorem d_Md_applied_160 : decode m_Md_applied.2.1 160 = .ok (.invokevirtual 49, 3) := by decide +kernel
theorem d_Md_applied_163 : decode m_Md_applied.2.1 163 = .ok (.if_icmp .ne 7, 3) := by decide +kernel
theorem d_Md_applied_166 : decode m_Md_applied.2.1 166 = .ok (.iconst 1, 1) := by decide +kernel
theorem d_Md_applied_167 : decode m_Md_applied.2.1 167 = .ok (.goto 4, 3) := by decide +kernel
theorem d_Md_applied_170 : decode m_Md_applied.2.1 170 = .ok (.iconst 0, 1) := by decide +kernel
theorem d_Md_applied_171 : decode m_Md_applied.2.1 171 = .ok (.istore 6, 2) := by decide +kernel
theorem d_Md_applied_173 : decode m_Md_applied.2.1 173 = .ok (.iinc 7 1, 3) := by decide +kernel
theorem d_Md_applied_176 : decode m_Md_applied.2.1 176 = .ok (.goto (-48), 3) := by decide +kernel
theorem d_Md_applied_179 : decode m_Md_applied.2.1 179 = .ok (.iload 6, 2) := by decide +kernel
theorem d_Md_applied_181 : decode m_Md_applied.2.1 181 = .ok (.ifCond .ne 5, 3) := by decide +kernel
theorem d_Md_applied_184 : decode m_Md_applied.2.1 184 = .ok (.iconst 2, 1) := by decide +kernel
theorem d_Md_applied_185 : decode m_Md_applied.2.1 185 = .ok (.ireturn, 1) := by decide +kernel
theorem d_Md_applied_186 : decode m_Md_applied.2.1 186 = .ok (.aload_n 0, 1) := by decide +kernel
theorem d_Md_applied_187 : decode m_Md_applied.2.1 187 = .ok (.getfield 13, 3) := by decide +kernel
theorem d_Md_applied_190 : decode m_Md_applied.2.1 190 = .ok (.bipush 41, 2) := by decide +kernel
theorem d_Md_applied_192 : decode m_Md_applied.2.1 192 = .ok (.iconst 0, 1) := by decide +kernel
theorem d_Md_applied_193 : decode m_Md_applied.2.1 193 = .ok (.iastore, 1) := by decide +kernel
theorem d_Md_applied_194 : decode m_Md_applied.2.1 194 = .ok (.aload_n 0, 1) := by decide +kernel
theorem d_Md_applied_195 : decode m_Md_applied.2.1 195 = .ok (.bipush 41, 2) := by decide +kernel
theorem d_Md_applied_197 : decode m_Md_applied.2.1 197 = .ok (.iconst 2, 1) := by decide +kernel
theorem d_Md_applied_198 : decode m_Md_applied.2.1 198 = .ok (.invokevirtual 53, 3) := by decide +kernel
theorem d_Md_applied_201 : decode m_Md_applied.2.1 201 = .ok (.aload_n 0, 1) := by decide +kernel
theorem d_Md_applied_202 : decode m_Md_applied.2.1 202 = .ok (.bipush 41, 2) := by decide +kernel
theorem d_Md_applied_204 : decode m_Md_applied.2.1 204 = .ok (.iconst 0, 1) := by decide +kernel
theorem d_Md_applied_205 : decode m_Md_applied.2.1 205 = .ok (.iload_n 1, 1) := by decide +kernel
theorem d_Md_applied_206 : decode m_Md_applied.2.1 206 = .ok (.iadd, 1) := by decide +kernel
theorem d_Md_applied_207 : decode m_Md_applied.2.1 207 = .ok (.invokevirtual 57, 3) := by decide +kernel
theorem d_Md_applied_210 : decode m_Md_applied.2.1 210 = .ok (.aload_n 0, 1) := by decide +kernel
theorem d_Md_applied_211 : decode m_Md_applied.2.1 211 = .ok (.bipush 41, 2) := by decide +kernel
theorem d_Md_applied_213 : decode m_Md_applied.2.1 213 = .ok (.iconst 0, 1) := by decide +kernel
theorem d_Md_applied_214 : decode m_Md_applied.2.1 214 = .ok (.iload_n 2, 1) := by decide +kernel
theorem d_Md_applied_215 : decode m_Md_applied.2.1 215 = .ok (.iadd, 1) := by decide +kernel
theorem d_Md_applied_216 : decode m_Md_applied.2.1 216 = .ok (.invokevirtual 57, 3) := by decide +kernel
theorem d_Md_applied_219 : decode m_Md_applied.2.1 219 = .ok (.aload_n 0, 1) := by decide +kernel
theorem d_Md_applied_220 : decode m_Md_applied.2.1 220 = .ok (.getfield 13, 3) := by decide +kernel
theorem d_Md_applied_223 : decode m_Md_applied.2.1 223 = .ok (.bipush 40, 2) := by decide +kernel
theorem d_Md_applied_225 : decode m_Md_applied.2.1 225 = .ok (.iconst 0, 1) := by decide +kernel
theorem d_Md_applied_226 : decode m_Md_applied.2.1 226 = .ok (.iastore, 1) := by decide +kernel
theorem d_Md_applied_227 : decode m_Md_applied.2.1 227 = .ok (.aload_n 0, 1) := by decide +kernel
theorem d_Md_applied_228 : decode m_Md_applied.2.1 228 = .ok (.iload 5, 2) := by decide +kernel
theorem d_Md_applied_230 : decode m_Md_applied.2.1 230 = .ok (.iconst 0, 1) := by decide +kernel
theorem d_Md_applied_231 : decode m_Md_applied.2.1 231 = .ok (.iload_n 2, 1) := by decide +kernel
theorem d_Md_applied_232 : decode m_Md_applied.2.1 232 = .ok (.iadd, 1) := by decide +kernel
theorem d_Md_applied_233 : decode m_Md_applied.2.1 233 = .ok (.invokevirtual 123, 3) := by decide +kernel
theorem d_Md_applied_236 : decode m_Md_applied.2.1 236 = .ok (.aload_n 0, 1) := by decide +kernel
theorem d_Md_applied_237 : decode m_Md_applied.2.1 237 = .ok (.getfield 45, 3) := by decide +kernel
theorem d_Md_applied_240 : decode m_Md_applied.2.1 240 = .ok (.ifCond .eq 7, 3) := by decide +kernel
theorem d_Md_applied_243 : decode m_Md_applied.2.1 243 = .ok (.iconst 3, 1) := by decide +kernel
theorem d_Md_applied_244 : decode m_Md_applied.2.1 244 = .ok (.goto 4, 3) := by decide +kernel
theorem d_Md_applied_247 : decode m_Md_applied.2.1 247 = .ok (.iconst 0, 1) := by decide +kernel
theorem d_Md_applied_248 : decode m_Md_applied.2.1 248 = .ok (.ireturn, 1) := by decide +kernel
theorem d_Md_putTerm_0 : decode m_Md_putTerm.2.1 0 = .ok (.aload_n 0, 1) := by decide +kernel
theorem d_Md_putTerm_1 : decode m_Md_putTerm.2.1 1 = .ok (.iload_n 2, 1) := by decide +kernel
theorem d_Md_putTerm_2 : decode m_Md_putTerm.2.1 2 = .ok (.iconst 0, 1) := by decide +kernel
theorem d_Md_putTerm_3 : decode m_Md_putTerm.2.1 3 = .ok (.invokevirtual 71, 3) := by decide +kernel
theorem d_Md_putTerm_6 : decode m_Md_putTerm.2.1 6 = .ok (.aload_n 0, 1) := by decide +kernel
theorem d_Md_putTerm_7 : decode m_Md_putTerm.2.1 7 = .ok (.bipush 42, 2) := by decide +kernel
theorem d_Md_putTerm_9 : decode m_Md_putTerm.2.1 9 = .ok (.iconst 1, 1) := by decide +kernel
theorem d_Md_putTerm_10 : decode m_Md_putTerm.2.1 10 = .ok (.invokevirtual 71, 3) := by decide +kernel
theorem d_Md_putTerm_13 : decode m_Md_putTerm.2.1 13 = .ok (.iload_n 1, 1) := by decide +kernel
theorem d_Md_putTerm_14 : decode m_Md_putTerm.2.1 14 = .ok (.istore_n 3, 1) := by decide +kernel
theorem d_Md_putTerm_15 : decode m_Md_putTerm.2.1 15 = .ok (.iload_n 3, 1) := by decide +kernel
theorem d_Md_putTerm_16 : decode m_Md_putTerm.2.1 16 = .ok (.aload_n 0, 1) := by decide +kernel
theorem d_Md_putTerm_17 : decode m_Md_putTerm.2.1 17 = .ok (.getfield 13, 3) := by decide +kernel
theorem d_Md_putTerm_20 : decode m_Md_putTerm.2.1 20 = .ok (.bipush 42, 2) := by decide +kernel
theorem d_Md_putTerm_22 : decode m_Md_putTerm.2.1 22 = .ok (.iaload, 1) := by decide +kernel
theorem d_Md_putTerm_23 : decode m_Md_putTerm.2.1 23 = .ok (.if_icmp .ge 93, 3) := by decide +kernel
theorem d_Md_putTerm_26 : decode m_Md_putTerm.2.1 26 = .ok (.aload_n 0, 1) := by decide +kernel
theorem d_Md_putTerm_27 : decode m_Md_putTerm.2.1 27 = .ok (.bipush 42, 2) := by decide +kernel
theorem d_Md_putTerm_29 : decode m_Md_putTerm.2.1 29 = .ok (.iload_n 3, 1) := by decide +kernel
theorem d_Md_putTerm_30 : decode m_Md_putTerm.2.1 30 = .ok (.invokevirtual 49, 3) := by decide +kernel
theorem d_Md_putTerm_33 : decode m_Md_putTerm.2.1 33 = .ok (.istore 4, 2) := by decide +kernel
theorem d_Md_putTerm_35 : decode m_Md_putTerm.2.1 35 = .ok (.bipush 100, 2) := by decide +kernel
theorem d_Md_putTerm_37 : decode m_Md_putTerm.2.1 37 = .ok (.aload_n 0, 1) := by decide +kernel
theorem d_Md_putTerm_38 : decode m_Md_putTerm.2.1 38 = .ok (.getfield 29, 3) := by decide +kernel
theorem d_Md_putTerm_41 : decode m_Md_putTerm.2.1 41 = .ok (.iload_n 3, 1) := by decide +kernel
theorem d_Md_putTerm_42 : decode m_Md_putTerm.2.1 42 = .ok (.iaload, 1) := by decide +kernel
theorem d_Md_putTerm_43 : decode m_Md_putTerm.2.1 43 = .ok (.iadd, 1) := by decide +kernel
theorem d_Md_putTerm_44 : decode m_Md_putTerm.2.1 44 = .ok (.aload_n 0, 1) := by decide +kernel
theorem d_Md_putTerm_45 : decode m_Md_putTerm.2.1 45 = .ok (.getfield 29, 3) := by decide +kernel
theorem d_Md_putTerm_48 : decode m_Md_putTerm.2.1 48 = .ok (.iload_n 1, 1) := by decide +kernel
theorem d_Md_putTerm_49 : decode m_Md_putTerm.2.1 49 = .ok (.iaload, 1) := by decide +kernel
theorem d_Md_putTerm_50 : decode m_Md_putTerm.2.1 50 = .ok (.isub, 1) := by decide +kernel
theorem d_Md_putTerm_51 : decode m_Md_putTerm.2.1 51 = .ok (.istore 5, 2) := by decide +kernel
theorem d_Md_putTerm_53 : decode m_Md_putTerm.2.1 53 = .ok (.iload 4, 2) := by decide +kernel
theorem d_Md_putTerm_55 : decode m_Md_putTerm.2.1 55 = .ok (.iload 5, 2) := by decide +kernel
theorem d_Md_putTerm_57 : decode m_Md_putTerm.2.1 57 = .ok (.if_icmp .ge 14, 3) := by decide +kernel
theorem d_Md_putTerm_60 : decode m_Md_putTerm.2.1 60 = .ok (.aload_n 0, 1) := by decide +kernel
theorem d_Md_putTerm_61 : decode m_Md_putTerm.2.1 61 = .ok (.bipush 40, 2) := by decide +kernel
theorem d_Md_putTerm_63 : decode m_Md_putTerm.2.1 63 = .ok (.iload 4, 2) := by decide +kernel
theorem d_Md_putTerm_65 : decode m_Md_putTerm.2.1 65 = .ok (.invokevirtual 53, 3) := by decide +kernel
theorem d_Md_putTerm_68 : decode m_Md_putTerm.2.1 68 = .ok (.goto 42, 3) := by decide +kernel
theorem d_Md_putTerm_71 : decode m_Md_putTerm.2.1 71 = .ok (.iload 4, 2) := by decide +kernel
theorem d_Md_putTerm_73 : decode m_Md_putTerm.2.1 73 = .ok (.iload 5, 2) := by decide +kernel
theorem d_Md_putTerm_75 : decode m_Md_putTerm.2.1 75 = .ok (.if_icmp .ne 25, 3) := by decide +kernel
theorem d_Md_putTerm_78 : decode m_Md_putTerm.2.1 78 = .ok (.aload_n 0, 1) := by decide +kernel
theorem d_Md_putTerm_79 : decode m_Md_putTerm.2.1 79 = .ok (.bipush 40, 2) := by decide +kernel
theorem d_Md_putTerm_81 : decode m_Md_putTerm.2.1 81 = .ok (.iload_n 2, 1) := by decide +kernel
theorem d_Md_putTerm_82 : decode m_Md_putTerm.2.1 82 = .ok (.iconst 0, 1) := by decide +kernel
theorem d_Md_putTerm_83 : decode m_Md_putTerm.2.1 83 = .ok (.aload_n 0, 1) := by decide +kernel
theorem d_Md_putTerm_84 : decode m_Md_putTerm.2.1 84 = .ok (.getfield 13, 3) := by decide +kernel
theorem d_Md_putTerm_87 : decode m_Md_putTerm.2.1 87 = .ok (.iload_n 2, 1) := by decide +kernel
theorem d_Md_putTerm_88 : decode m_Md_putTerm.2.1 88 = .ok (.iaload, 1) := by decide +kernel
theorem d_Md_putTerm_89 : decode m_Md_putTerm.2.1 89 = .ok (.iload 4, 2) := by decide +kernel
theorem d_Md_putTerm_91 : decode m_Md_putTerm.2.1 91 = .ok (.bipush 100, 2) := by decide +kernel
theorem d_Md_putTerm_93 : decode m_Md_putTerm.2.1 93 = .ok (.isub, 1) := by decide +kernel
theorem d_Md_putTerm_94 : decode m_Md_putTerm.2.1 94 = .ok (.invokevirtual 64, 3) := by decide +kernel
theorem d_Md_putTerm_97 : decode m_Md_putTerm.2.1 97 = .ok (.goto 13, 3) := by decide +kernel
theorem d_Md_putTerm_100 : decode m_Md_putTerm.2.1 100 = .ok (.aload_n 0, 1) := by decide +kernel
theorem d_Md_putTerm_101 : decode m_Md_putTerm.2.1 101 = .ok (.bipush 40, 2) := by decide +kernel
theorem d_Md_putTerm_103 : decode m_Md_putTerm.2.1 103 = .ok (.iload 4, 2) := by decide +kernel
theorem d_Md_putTerm_105 : decode m_Md_putTerm.2.1 105 = .ok (.iconst 1, 1) := by decide +kernel
theorem d_Md_putTerm_106 : decode m_Md_putTerm.2.1 106 = .ok (.isub, 1) := by decide +kernel
theorem d_Md_putTerm_107 : decode m_Md_putTerm.2.1 107 = .ok (.invokevirtual 53, 3) := by decide +kernel
theorem d_Md_putTerm_110 : decode m_Md_putTerm.2.1 110 = .ok (.iinc 3 1, 3) := by decide +kernel
theorem d_Md_putTerm_113 : decode m_Md_putTerm.2.1 113 = .ok (.goto (-98), 3) := by decide +kernel
theorem d_Md_putTerm_116 : decode m_Md_putTerm.2.1 116 = .ok (.return_, 1) := by decide +kernel
theorem d_Md_apply_0 : decode m_Md_apply.2.1 0 = .ok (.aload_n 0, 1) := by decide +kernel
theorem d_Md_apply_1 : decode m_Md_apply.2.1 1 = .ok (.aload_n 0, 1) := by decide +kernel
theorem d_Md_apply_2 : decode m_Md_apply.2.1 2 = .ok (.getfield 107, 3) := by decide +kernel
theorem d_Md_apply_5 : decode m_Md_apply.2.1 5 = .ok (.iconst 2, 1) := by decide +kernel
theorem d_Md_apply_6 : decode m_Md_apply.2.1 6 = .ok (.if_icmp .ge 7, 3) := by decide +kernel
theorem d_Md_apply_9 : decode m_Md_apply.2.1 9 = .ok (.iconst 1, 1) := by decide +kernel
theorem d_Md_apply_10 : decode m_Md_apply.2.1 10 = .ok (.goto 7, 3) := by decide +kernel
theorem d_Md_apply_13 : decode m_Md_apply.2.1 13 = .ok (.aload_n 0, 1) := by decide +kernel
theorem d_Md_apply_14 : decode m_Md_apply.2.1 14 = .ok (.invokevirtual 126, 3) := by decide +kernel
theorem d_Md_apply_17 : decode m_Md_apply.2.1 17 = .ok (.putfield 41, 3) := by decide +kernel
theorem d_Md_apply_20 : decode m_Md_apply.2.1 20 = .ok (.aload_n 0, 1) := by decide +kernel
theorem d_Md_apply_21 : decode m_Md_apply.2.1 21 = .ok (.getfield 41, 3) := by decide +kernel
theorem d_Md_apply_24 : decode m_Md_apply.2.1 24 = .ok (.ifCond .ne 42, 3) := by decide +kernel
theorem d_Md_apply_27 : decode m_Md_apply.2.1 27 = .ok (.aload_n 0, 1) := by decide +kernel
theorem d_Md_apply_28 : decode m_Md_apply.2.1 28 = .ok (.dup, 1) := by decide +kernel
theorem d_Md_apply_29 : decode m_Md_apply.2.1 29 = .ok (.getfield 107, 3) := by decide +kernel
theorem d_Md_apply_32 : decode m_Md_apply.2.1 32 = .ok (.iconst 1, 1) := by decide +kernel
theorem d_Md_apply_33 : decode m_Md_apply.2.1 33 = .ok (.isub, 1) := by decide +kernel
theorem d_Md_apply_34 : decode m_Md_apply.2.1 34 = .ok (.putfield 107, 3) := by decide +kernel
theorem d_Md_apply_37 : decode m_Md_apply.2.1 37 = .ok (.aload_n 0, 1) := by decide +kernel
theorem d_Md_apply_38 : decode m_Md_apply.2.1 38 = .ok (.bipush 41, 2) := by decide +kernel
theorem d_Md_apply_40 : decode m_Md_apply.2.1 40 = .ok (.iconst 0, 1) := by decide +kernel
theorem d_Md_apply_41 : decode m_Md_apply.2.1 41 = .ok (.aload_n 0, 1) := by decide +kernel
theorem d_Md_apply_42 : decode m_Md_apply.2.1 42 = .ok (.getfield 107, 3) := by decide +kernel
theorem d_Md_apply_45 : decode m_Md_apply.2.1 45 = .ok (.iadd, 1) := by decide +kernel
theorem d_Md_apply_46 : decode m_Md_apply.2.1 46 = .ok (.iconst 1, 1) := by decide +kernel
theorem d_Md_apply_47 : decode m_Md_apply.2.1 47 = .ok (.isub, 1) := by decide +kernel
theorem d_Md_apply_48 : decode m_Md_apply.2.1 48 = .ok (.invokevirtual 90, 3) := by decide +kernel
theorem d_Md_apply_51 : decode m_Md_apply.2.1 51 = .ok (.aload_n 0, 1) := by decide +kernel
theorem d_Md_apply_52 : decode m_Md_apply.2.1 52 = .ok (.bipush 40, 2) := by decide +kernel
theorem d_Md_apply_54 : decode m_Md_apply.2.1 54 = .ok (.bipush 6, 2) := by decide +kernel
theorem d_Md_apply_56 : decode m_Md_apply.2.1 56 = .ok (.aload_n 0, 1) := by decide +kernel
theorem d_Md_apply_57 : decode m_Md_apply.2.1 57 = .ok (.getfield 107, 3) := by decide +kernel
theorem d_Md_apply_60 : decode m_Md_apply.2.1 60 = .ok (.iadd, 1) := by decide +kernel
theorem d_Md_apply_61 : decode m_Md_apply.2.1 61 = .ok (.iconst 1, 1) := by decide +kernel
theorem d_Md_apply_62 : decode m_Md_apply.2.1 62 = .ok (.isub, 1) := by decide +kernel
theorem d_Md_apply_63 : decode m_Md_apply.2.1 63 = .ok (.invokevirtual 90, 3) := by decide +kernel
theorem d_Md_apply_66 : decode m_Md_apply.2.1 66 = .ok (.return_, 1) := by decide +kernel
theorem d_Md_assume_0 : decode m_Md_assume.2.1 0 = .ok (.aload_n 0, 1) := by decide +kernel
theorem d_Md_assume_1 : decode m_Md_assume.2.1 1 = .ok (.getfield 107, 3) := by decide +kernel
theorem d_Md_assume_4 : decode m_Md_assume.2.1 4 = .ok (.iconst 1, 1) := by decide +kernel
theorem d_Md_assume_5 : decode m_Md_assume.2.1 5 = .ok (.isub, 1) := by decide +kernel
theorem d_Md_assume_6 : decode m_Md_assume.2.1 6 = .ok (.istore_n 1, 1) := by decide +kernel
theorem d_Md_assume_7 : decode m_Md_assume.2.1 7 = .ok (.aload_n 0, 1) := by decide +kernel
theorem d_Md_assume_8 : decode m_Md_assume.2.1 8 = .ok (.aload_n 0, 1) := by decide +kernel
theorem d_Md_assume_9 : decode m_Md_assume.2.1 9 = .ok (.iload_n 1, 1) := by decide +kernel
theorem d_Md_assume_10 : decode m_Md_assume.2.1 10 = .ok (.invokevirtual 110, 3) := by decide +kernel
theorem d_Md_assume_13 : decode m_Md_assume.2.1 13 = .ok (.ifCond .ne 7, 3) := by decide +kernel
theorem d_Md_assume_16 : decode m_Md_assume.2.1 16 = .ok (.iconst 1, 1) := by decide +kernel
theorem d_Md_assume_17 : decode m_Md_assume.2.1 17 = .ok (.goto 32, 3) := by decide +kernel
theorem d_Md_assume_20 : decode m_Md_assume.2.1 20 = .ok (.aload_n 0, 1) := by decide +kernel
theorem d_Md_assume_21 : decode m_Md_assume.2.1 21 = .ok (.getfield 104, 3) := by decide +kernel
theorem d_Md_assume_24 : decode m_Md_assume.2.1 24 = .ok (.iconst 4, 1) := by decide +kernel
theorem d_Md_assume_25 : decode m_Md_assume.2.1 25 = .ok (.if_icmp .ne 7, 3) := by decide +kernel
theorem d_Md_assume_28 : decode m_Md_assume.2.1 28 = .ok (.iconst 2, 1) := by decide +kernel
theorem d_Md_assume_29 : decode m_Md_assume.2.1 29 = .ok (.goto 20, 3) := by decide +kernel
theorem d_Md_assume_32 : decode m_Md_assume.2.1 32 = .ok (.aload_n 0, 1) := by decide +kernel
theorem d_Md_assume_33 : decode m_Md_assume.2.1 33 = .ok (.bipush 6, 2) := by decide +kernel
theorem d_Md_assume_35 : decode m_Md_assume.2.1 35 = .ok (.iload_n 1, 1) := by decide +kernel
theorem d_Md_assume_36 : decode m_Md_assume.2.1 36 = .ok (.iadd, 1) := by decide +kernel
theorem d_Md_assume_37 : decode m_Md_assume.2.1 37 = .ok (.iconst 0, 1) := by decide +kernel
theorem d_Md_assume_38 : decode m_Md_assume.2.1 38 = .ok (.invokevirtual 129, 3) := by decide +kernel
theorem d_Md_assume_41 : decode m_Md_assume.2.1 41 = .ok (.ifCond .ne 7, 3) := by decide +kernel
theorem d_Md_assume_44 : decode m_Md_assume.2.1 44 = .ok (.iconst 3, 1) := by decide +kernel
theorem d_Md_assume_45 : decode m_Md_assume.2.1 45 = .ok (.goto 4, 3) := by decide +kernel
theorem d_Md_assume_48 : decode m_Md_assume.2.1 48 = .ok (.iconst 0, 1) := by decide +kernel
theorem d_Md_assume_49 : decode m_Md_assume.2.1 49 = .ok (.putfield 41, 3) := by decide +kernel
theorem d_Md_assume_52 : decode m_Md_assume.2.1 52 = .ok (.aload_n 0, 1) := by decide +kernel
theorem d_Md_assume_53 : decode m_Md_assume.2.1 53 = .ok (.getfield 41, 3) := by decide +kernel
theorem d_Md_assume_56 : decode m_Md_assume.2.1 56 = .ok (.ifCond .ne 37, 3) := by decide +kernel
theorem d_Md_assume_59 : decode m_Md_assume.2.1 59 = .ok (.aload_n 0, 1) := by decide +kernel
theorem d_Md_assume_60 : decode m_Md_assume.2.1 60 = .ok (.iconst 0, 1) := by decide +kernel
theorem d_Md_assume_61 : decode m_Md_assume.2.1 61 = .ok (.iload_n 1, 1) := by decide +kernel
theorem d_Md_assume_62 : decode m_Md_assume.2.1 62 = .ok (.iadd, 1) := by decide +kernel
theorem d_Md_assume_63 : decode m_Md_assume.2.1 63 = .ok (.bipush 12, 2) := by decide +kernel
theorem d_Md_assume_65 : decode m_Md_assume.2.1 65 = .ok (.aload_n 0, 1) := by decide +kernel
theorem d_Md_assume_66 : decode m_Md_assume.2.1 66 = .ok (.getfield 104, 3) := by decide +kernel
theorem d_Md_assume_69 : decode m_Md_assume.2.1 69 = .ok (.iadd, 1) := by decide +kernel
theorem d_Md_assume_70 : decode m_Md_assume.2.1 70 = .ok (.invokevirtual 90, 3) := by decide +kernel
theorem d_Md_assume_73 : decode m_Md_assume.2.1 73 = .ok (.aload_n 0, 1) := by decide +kernel
theorem d_Md_assume_74 : decode m_Md_assume.2.1 74 = .ok (.dup, 1) := by decide +kernel
theorem d_Md_assume_75 : decode m_Md_assume.2.1 75 = .ok (.getfield 104, 3) := by decide +kernel
theorem d_Md_assume_78 : decode m_Md_assume.2.1 78 = .ok (.iconst 1, 1) := by decide +kernel
theorem d_Md_assume_79 : decode m_Md_assume.2.1 79 = .ok (.iadd, 1) := by decide +kernel
theorem d_Md_assume_80 : decode m_Md_assume.2.1 80 = .ok (.putfield 104, 3) := by decide +kernel
theorem d_Md_assume_83 : decode m_Md_assume.2.1 83 = .ok (.aload_n 0, 1) := by decide +kernel
theorem d_Md_assume_84 : decode m_Md_assume.2.1 84 = .ok (.dup, 1) := by decide +kernel
theorem d_Md_assume_85 : decode m_Md_assume.2.1 85 = .ok (.getfield 107, 3) := by decide +kernel
theorem d_Md_assume_88 : decode m_Md_assume.2.1 88 = .ok (.iconst 1, 1) := by decide +kernel
theorem d_Md_assume_89 : decode m_Md_assume.2.1 89 = .ok (.isub, 1) := by decide +kernel
theorem d_Md_assume_90 : decode m_Md_assume.2.1 90 = .ok (.putfield 107, 3) := by decide +kernel
theorem d_Md_assume_93 : decode m_Md_assume.2.1 93 = .ok (.return_, 1) := by decide +kernel
theorem d_Md_binds_0 : decode m_Md_binds.2.1 0 = .ok (.aload_n 0, 1) := by decide +kernel
theorem d_Md_binds_1 : decode m_Md_binds.2.1 1 = .ok (.iconst 0, 1) := by decide +kernel
theorem d_Md_binds_2 : decode m_Md_binds.2.1 2 = .ok (.putfield 45, 3) := by decide +kernel
theorem d_Md_binds_5 : decode m_Md_binds.2.1 5 = .ok (.aload_n 0, 1) := by decide +kernel
theorem d_Md_binds_6 : decode m_Md_binds.2.1 6 = .ok (.getfield 13, 3) := by decide +kernel
theorem d_Md_binds_9 : decode m_Md_binds.2.1 9 = .ok (.bipush 41, 2) := by decide +kernel
theorem d_Md_binds_11 : decode m_Md_binds.2.1 11 = .ok (.iconst 0, 1) := by decide +kernel
theorem d_Md_binds_12 : decode m_Md_binds.2.1 12 = .ok (.iastore, 1) := by decide +kernel
theorem d_Md_binds_13 : decode m_Md_binds.2.1 13 = .ok (.aload_n 0, 1) := by decide +kernel
theorem d_Md_binds_14 : decode m_Md_binds.2.1 14 = .ok (.bipush 41, 2) := by decide +kernel
theorem d_Md_binds_16 : decode m_Md_binds.2.1 16 = .ok (.iload_n 1, 1) := by decide +kernel
theorem d_Md_binds_17 : decode m_Md_binds.2.1 17 = .ok (.invokevirtual 53, 3) := by decide +kernel
theorem d_Md_binds_20 : decode m_Md_binds.2.1 20 = .ok (.aload_n 0, 1) := by decide +kernel
theorem d_Md_binds_21 : decode m_Md_binds.2.1 21 = .ok (.bipush 41, 2) := by decide +kernel
theorem d_Md_binds_23 : decode m_Md_binds.2.1 23 = .ok (.bipush 12, 2) := by decide +kernel
theorem d_Md_binds_25 : decode m_Md_binds.2.1 25 = .ok (.aload_n 0, 1) := by decide +kernel
theorem d_Md_binds_26 : decode m_Md_binds.2.1 26 = .ok (.getfield 104, 3) := by decide +kernel
theorem d_Md_binds_29 : decode m_Md_binds.2.1 29 = .ok (.iadd, 1) := by decide +kernel
theorem d_Md_binds_30 : decode m_Md_binds.2.1 30 = .ok (.iconst 1, 1) := by decide +kernel
theorem d_Md_binds_31 : decode m_Md_binds.2.1 31 = .ok (.isub, 1) := by decide +kernel
theorem d_Md_binds_32 : decode m_Md_binds.2.1 32 = .ok (.invokevirtual 57, 3) := by decide +kernel
theorem d_Md_binds_35 : decode m_Md_binds.2.1 35 = .ok (.aload_n 0, 1) := by decide +kernel
theorem d_Md_binds_36 : decode m_Md_binds.2.1 36 = .ok (.bipush 41, 2) := by decide +kernel
theorem d_Md_binds_38 : decode m_Md_binds.2.1 38 = .ok (.iload_n 2, 1) := by decide +kernel
theorem d_Md_binds_39 : decode m_Md_binds.2.1 39 = .ok (.invokevirtual 57, 3) := by decide +kernel
theorem d_Md_binds_42 : decode m_Md_binds.2.1 42 = .ok (.aload_n 0, 1) := by decide +kernel
theorem d_Md_binds_43 : decode m_Md_binds.2.1 43 = .ok (.getfield 45, 3) := by decide +kernel
theorem d_Md_binds_46 : decode m_Md_binds.2.1 46 = .ok (.ifCond .ne 7, 3) := by decide +kernel
theorem d_Md_binds_49 : decode m_Md_binds.2.1 49 = .ok (.iconst 1, 1) := by decide +kernel
theorem d_Md_binds_50 : decode m_Md_binds.2.1 50 = .ok (.goto 4, 3) := by decide +kernel
theorem d_Md_binds_53 : decode m_Md_binds.2.1 53 = .ok (.iconst 0, 1) := by decide +kernel
theorem d_Md_binds_54 : decode m_Md_binds.2.1 54 = .ok (.ireturn, 1) := by decide +kernel
theorem d_Md_canBind_0 : decode m_Md_canBind.2.1 0 = .ok (.aload_n 0, 1) := by decide +kernel
theorem d_Md_canBind_1 : decode m_Md_canBind.2.1 1 = .ok (.getfield 104, 3) := by decide +kernel
theorem d_Md_canBind_4 : decode m_Md_canBind.2.1 4 = .ok (.ifCond .le 27, 3) := by decide +kernel
theorem d_Md_canBind_7 : decode m_Md_canBind.2.1 7 = .ok (.aload_n 0, 1) := by decide +kernel
theorem d_Md_canBind_8 : decode m_Md_canBind.2.1 8 = .ok (.aload_n 0, 1) := by decide +kernel
theorem d_Md_canBind_9 : decode m_Md_canBind.2.1 9 = .ok (.getfield 107, 3) := by decide +kernel
theorem d_Md_canBind_12 : decode m_Md_canBind.2.1 12 = .ok (.iconst 1, 1) := by decide +kernel
theorem d_Md_canBind_13 : decode m_Md_canBind.2.1 13 = .ok (.isub, 1) := by decide +kernel
theorem d_Md_canBind_14 : decode m_Md_canBind.2.1 14 = .ok (.invokevirtual 110, 3) := by decide +kernel
theorem d_Md_canBind_17 : decode m_Md_canBind.2.1 17 = .ok (.ifCond .eq 14, 3) := by decide +kernel
theorem d_Md_canBind_20 : decode m_Md_canBind.2.1 20 = .ok (.aload_n 0, 1) := by decide +kernel
theorem d_Md_canBind_21 : decode m_Md_canBind.2.1 21 = .ok (.invokevirtual 132, 3) := by decide +kernel
theorem d_Md_canBind_24 : decode m_Md_canBind.2.1 24 = .ok (.ifCond .eq 7, 3) := by decide +kernel
theorem d_Md_canBind_27 : decode m_Md_canBind.2.1 27 = .ok (.iconst 1, 1) := by decide +kernel
theorem d_Md_canBind_28 : decode m_Md_canBind.2.1 28 = .ok (.goto 4, 3) := by decide +kernel
theorem d_Md_canBind_31 : decode m_Md_canBind.2.1 31 = .ok (.iconst 0, 1) := by decide +kernel
theorem d_Md_canBind_32 : decode m_Md_canBind.2.1 32 = .ok (.ireturn, 1) := by decide +kernel
theorem d_Md_close_0 : decode m_Md_close.2.1 0 = .ok (.aload_n 0, 1) := by decide +kernel
theorem d_Md_close_1 : decode m_Md_close.2.1 1 = .ok (.dup, 1) := by decide +kernel
theorem d_Md_close_2 : decode m_Md_close.2.1 2 = .ok (.getfield 104, 3) := by decide +kernel
theorem d_Md_close_5 : decode m_Md_close.2.1 5 = .ok (.iconst 1, 1) := by decide +kernel
theorem d_Md_close_6 : decode m_Md_close.2.1 6 = .ok (.isub, 1) := by decide +kernel
theorem d_Md_close_7 : decode m_Md_close.2.1 7 = .ok (.putfield 104, 3) := by decide +kernel
theorem d_Md_close_10 : decode m_Md_close.2.1 10 = .ok (.aload_n 0, 1) := by decide +kernel
theorem d_Md_close_11 : decode m_Md_close.2.1 11 = .ok (.getfield 16, 3) := by decide +kernel
theorem d_Md_close_14 : decode m_Md_close.2.1 14 = .ok (.aload_n 0, 1) := by decide +kernel
theorem d_Md_close_15 : decode m_Md_close.2.1 15 = .ok (.getfield 107, 3) := by decide +kernel
theorem d_Md_close_18 : decode m_Md_close.2.1 18 = .ok (.iconst 1, 1) := by decide +kernel
theorem d_Md_close_19 : decode m_Md_close.2.1 19 = .ok (.isub, 1) := by decide +kernel
theorem d_Md_close_20 : decode m_Md_close.2.1 20 = .ok (.aload_n 0, 1) := by decide +kernel
theorem d_Md_close_21 : decode m_Md_close.2.1 21 = .ok (.getfield 104, 3) := by decide +kernel
theorem d_Md_close_24 : decode m_Md_close.2.1 24 = .ok (.iastore, 1) := by decide +kernel
theorem d_Md_close_25 : decode m_Md_close.2.1 25 = .ok (.return_, 1) := by decide +kernel
theorem d_Md_lambda_0 : decode m_Md_lambda.2.1 0 = .ok (.aload_n 0, 1) := by decide +kernel
theorem d_Md_lambda_1 : decode m_Md_lambda.2.1 1 = .ok (.getfield 107, 3) := by decide +kernel
theorem d_Md_lambda_4 : decode m_Md_lambda.2.1 4 = .ok (.iconst 1, 1) := by decide +kernel
theorem d_Md_lambda_5 : decode m_Md_lambda.2.1 5 = .ok (.isub, 1) := by decide +kernel
theorem d_Md_lambda_6 : decode m_Md_lambda.2.1 6 = .ok (.istore_n 1, 1) := by decide +kernel
theorem d_Md_lambda_7 : decode m_Md_lambda.2.1 7 = .ok (.aload_n 0, 1) := by decide +kernel
theorem d_Md_lambda_8 : decode m_Md_lambda.2.1 8 = .ok (.aload_n 0, 1) := by decide +kernel
theorem d_Md_lambda_9 : decode m_Md_lambda.2.1 9 = .ok (.invokevirtual 135, 3) := by decide +kernel
theorem d_Md_lambda_12 : decode m_Md_lambda.2.1 12 = .ok (.ifCond .ne 7, 3) := by decide +kernel
theorem d_Md_lambda_15 : decode m_Md_lambda.2.1 15 = .ok (.iconst 1, 1) := by decide +kernel
theorem d_Md_lambda_16 : decode m_Md_lambda.2.1 16 = .ok (.goto 47, 3) := by decide +kernel
theorem d_Md_lambda_19 : decode m_Md_lambda.2.1 19 = .ok (.aload_n 0, 1) := by decide +kernel
theorem d_Md_lambda_20 : decode m_Md_lambda.2.1 20 = .ok (.bipush 6, 2) := by decide +kernel
theorem d_Md_lambda_22 : decode m_Md_lambda.2.1 22 = .ok (.iload_n 1, 1) := by decide +kernel
theorem d_Md_lambda_23 : decode m_Md_lambda.2.1 23 = .ok (.iadd, 1) := by decide +kernel
theorem d_Md_lambda_24 : decode m_Md_lambda.2.1 24 = .ok (.iconst 1, 1) := by decide +kernel
theorem d_Md_lambda_25 : decode m_Md_lambda.2.1 25 = .ok (.invokevirtual 129, 3) := by decide +kernel
theorem d_Md_lambda_28 : decode m_Md_lambda.2.1 28 = .ok (.ifCond .eq 7, 3) := by decide +kernel
theorem d_Md_lambda_31 : decode m_Md_lambda.2.1 31 = .ok (.iconst 2, 1) := by decide +kernel
theorem d_Md_lambda_32 : decode m_Md_lambda.2.1 32 = .ok (.goto 31, 3) := by decide +kernel
theorem d_Md_lambda_35 : decode m_Md_lambda.2.1 35 = .ok (.aload_n 0, 1) := by decide +kernel
theorem d_Md_lambda_36 : decode m_Md_lambda.2.1 36 = .ok (.iconst 3, 1) := by decide +kernel
theorem d_Md_lambda_37 : decode m_Md_lambda.2.1 37 = .ok (.iconst 0, 1) := by decide +kernel
theorem d_Md_lambda_38 : decode m_Md_lambda.2.1 38 = .ok (.iload_n 1, 1) := by decide +kernel
theorem d_Md_lambda_39 : decode m_Md_lambda.2.1 39 = .ok (.iadd, 1) := by decide +kernel
theorem d_Md_lambda_40 : decode m_Md_lambda.2.1 40 = .ok (.invokevirtual 138, 3) := by decide +kernel
theorem d_Md_lambda_43 : decode m_Md_lambda.2.1 43 = .ok (.ifCond .eq 19, 3) := by decide +kernel
theorem d_Md_lambda_46 : decode m_Md_lambda.2.1 46 = .ok (.aload_n 0, 1) := by decide +kernel
theorem d_Md_lambda_47 : decode m_Md_lambda.2.1 47 = .ok (.iconst 4, 1) := by decide +kernel
theorem d_Md_lambda_48 : decode m_Md_lambda.2.1 48 = .ok (.bipush 6, 2) := by decide +kernel
theorem d_Md_lambda_50 : decode m_Md_lambda.2.1 50 = .ok (.iload_n 1, 1) := by decide +kernel
theorem d_Md_lambda_51 : decode m_Md_lambda.2.1 51 = .ok (.iadd, 1) := by decide +kernel
theorem d_Md_lambda_52 : decode m_Md_lambda.2.1 52 = .ok (.invokevirtual 138, 3) := by decide +kernel
theorem d_Md_lambda_55 : decode m_Md_lambda.2.1 55 = .ok (.ifCond .eq 7, 3) := by decide +kernel
theorem d_Md_lambda_58 : decode m_Md_lambda.2.1 58 = .ok (.iconst 0, 1) := by decide +kernel
theorem d_Md_lambda_59 : decode m_Md_lambda.2.1 59 = .ok (.goto 4, 3) := by decide +kernel
theorem d_Md_lambda_62 : decode m_Md_lambda.2.1 62 = .ok (.iconst 3, 1) := by decide +kernel
theorem d_Md_lambda_63 : decode m_Md_lambda.2.1 63 = .ok (.putfield 41, 3) := by decide +kernel
theorem d_Md_lambda_66 : decode m_Md_lambda.2.1 66 = .ok (.aload_n 0, 1) := by decide +kernel
theorem d_Md_lambda_67 : decode m_Md_lambda.2.1 67 = .ok (.getfield 41, 3) := by decide +kernel
theorem d_Md_lambda_70 : decode m_Md_lambda.2.1 70 = .ok (.ifCond .ne 35, 3) := by decide +kernel
theorem d_Md_lambda_73 : decode m_Md_lambda.2.1 73 = .ok (.aload_n 0, 1) := by decide +kernel
theorem d_Md_lambda_74 : decode m_Md_lambda.2.1 74 = .ok (.bipush 41, 2) := by decide +kernel
theorem d_Md_lambda_76 : decode m_Md_lambda.2.1 76 = .ok (.bipush 6, 2) := by decide +kernel
theorem d_Md_lambda_78 : decode m_Md_lambda.2.1 78 = .ok (.iload_n 1, 1) := by decide +kernel
theorem d_Md_lambda_79 : decode m_Md_lambda.2.1 79 = .ok (.iadd, 1) := by decide +kernel
theorem d_Md_lambda_80 : decode m_Md_lambda.2.1 80 = .ok (.invokevirtual 90, 3) := by decide +kernel
theorem d_Md_lambda_83 : decode m_Md_lambda.2.1 83 = .ok (.aload_n 0, 1) := by decide +kernel
theorem d_Md_lambda_84 : decode m_Md_lambda.2.1 84 = .ok (.iconst 3, 1) := by decide +kernel
theorem d_Md_lambda_85 : decode m_Md_lambda.2.1 85 = .ok (.iconst 0, 1) := by decide +kernel
theorem d_Md_lambda_86 : decode m_Md_lambda.2.1 86 = .ok (.iload_n 1, 1) := by decide +kernel
theorem d_Md_lambda_87 : decode m_Md_lambda.2.1 87 = .ok (.iadd, 1) := by decide +kernel
theorem d_Md_lambda_88 : decode m_Md_lambda.2.1 88 = .ok (.invokevirtual 138, 3) := by decide +kernel
theorem d_Md_lambda_91 : decode m_Md_lambda.2.1 91 = .ok (.istore_n 2, 1) := by decide +kernel
theorem d_Md_lambda_92 : decode m_Md_lambda.2.1 92 = .ok (.aload_n 0, 1) := by decide +kernel
theorem d_Md_lambda_93 : decode m_Md_lambda.2.1 93 = .ok (.bipush 41, 2) := by decide +kernel
theorem d_Md_lambda_95 : decode m_Md_lambda.2.1 95 = .ok (.iconst 0, 1) := by decide +kernel
theorem d_Md_lambda_96 : decode m_Md_lambda.2.1 96 = .ok (.iload_n 1, 1) := by decide +kernel
theorem d_Md_lambda_97 : decode m_Md_lambda.2.1 97 = .ok (.iadd, 1) := by decide +kernel
theorem d_Md_lambda_98 : decode m_Md_lambda.2.1 98 = .ok (.invokevirtual 90, 3) := by decide +kernel
theorem d_Md_lambda_101 : decode m_Md_lambda.2.1 101 = .ok (.aload_n 0, 1) := by decide +kernel
theorem d_Md_lambda_102 : decode m_Md_lambda.2.1 102 = .ok (.invokevirtual 141, 3) := by decide +kernel
theorem d_Md_lambda_105 : decode m_Md_lambda.2.1 105 = .ok (.return_, 1) := by decide +kernel
theorem d_Md_product_0 : decode m_Md_product.2.1 0 = .ok (.aload_n 0, 1) := by decide +kernel
theorem d_Md_product_1 : decode m_Md_product.2.1 1 = .ok (.getfield 107, 3) := by decide +kernel
theorem d_Md_product_4 : decode m_Md_product.2.1 4 = .ok (.iconst 1, 1) := by decide +kernel
theorem d_Md_product_5 : decode m_Md_product.2.1 5 = .ok (.isub, 1) := by decide +kernel
theorem d_Md_product_6 : decode m_Md_product.2.1 6 = .ok (.istore_n 1, 1) := by decide +kernel
theorem d_Md_product_7 : decode m_Md_product.2.1 7 = .ok (.aload_n 0, 1) := by decide +kernel
theorem d_Md_product_8 : decode m_Md_product.2.1 8 = .ok (.aload_n 0, 1) := by decide +kernel
theorem d_Md_product_9 : decode m_Md_product.2.1 9 = .ok (.invokevirtual 135, 3) := by decide +kernel
theorem d_Md_product_12 : decode m_Md_product.2.1 12 = .ok (.ifCond .ne 7, 3) := by decide +kernel
theorem d_Md_product_15 : decode m_Md_product.2.1 15 = .ok (.iconst 1, 1) := by decide +kernel
theorem d_Md_product_16 : decode m_Md_product.2.1 16 = .ok (.goto 47, 3) := by decide +kernel
theorem d_Md_product_19 : decode m_Md_product.2.1 19 = .ok (.aload_n 0, 1) := by decide +kernel
theorem d_Md_product_20 : decode m_Md_product.2.1 20 = .ok (.bipush 6, 2) := by decide +kernel
theorem d_Md_product_22 : decode m_Md_product.2.1 22 = .ok (.iload_n 1, 1) := by decide +kernel
theorem d_Md_product_23 : decode m_Md_product.2.1 23 = .ok (.iadd, 1) := by decide +kernel
theorem d_Md_product_24 : decode m_Md_product.2.1 24 = .ok (.iconst 0, 1) := by decide +kernel
theorem d_Md_product_25 : decode m_Md_product.2.1 25 = .ok (.invokevirtual 129, 3) := by decide +kernel
theorem d_Md_product_28 : decode m_Md_product.2.1 28 = .ok (.ifCond .ne 19, 3) := by decide +kernel
theorem d_Md_product_31 : decode m_Md_product.2.1 31 = .ok (.aload_n 0, 1) := by decide +kernel
theorem d_Md_product_32 : decode m_Md_product.2.1 32 = .ok (.bipush 6, 2) := by decide +kernel
theorem d_Md_product_34 : decode m_Md_product.2.1 34 = .ok (.iload_n 1, 1) := by decide +kernel
theorem d_Md_product_35 : decode m_Md_product.2.1 35 = .ok (.iadd, 1) := by decide +kernel
theorem d_Md_product_36 : decode m_Md_product.2.1 36 = .ok (.iconst 1, 1) := by decide +kernel
theorem d_Md_product_37 : decode m_Md_product.2.1 37 = .ok (.invokevirtual 129, 3) := by decide +kernel
theorem d_Md_product_40 : decode m_Md_product.2.1 40 = .ok (.ifCond .ne 7, 3) := by decide +kernel
theorem d_Md_product_43 : decode m_Md_product.2.1 43 = .ok (.iconst 2, 1) := by decide +kernel
theorem d_Md_product_44 : decode m_Md_product.2.1 44 = .ok (.goto 19, 3) := by decide +kernel
theorem d_Md_product_47 : decode m_Md_product.2.1 47 = .ok (.aload_n 0, 1) := by decide +kernel
theorem d_Md_product_48 : decode m_Md_product.2.1 48 = .ok (.iconst 4, 1) := by decide +kernel
theorem d_Md_product_49 : decode m_Md_product.2.1 49 = .ok (.iconst 0, 1) := by decide +kernel
theorem d_Md_product_50 : decode m_Md_product.2.1 50 = .ok (.iload_n 1, 1) := by decide +kernel
theorem d_Md_product_51 : decode m_Md_product.2.1 51 = .ok (.iadd, 1) := by decide +kernel
theorem d_Md_product_52 : decode m_Md_product.2.1 52 = .ok (.invokevirtual 138, 3) := by decide +kernel
theorem d_Md_product_55 : decode m_Md_product.2.1 55 = .ok (.ifCond .eq 7, 3) := by decide +kernel
theorem d_Md_product_58 : decode m_Md_product.2.1 58 = .ok (.iconst 0, 1) := by decide +kernel
theorem d_Md_product_59 : decode m_Md_product.2.1 59 = .ok (.goto 4, 3) := by decide +kernel
theorem d_Md_product_62 : decode m_Md_product.2.1 62 = .ok (.iconst 3, 1) := by decide +kernel
theorem d_Md_product_63 : decode m_Md_product.2.1 63 = .ok (.putfield 41, 3) := by decide +kernel
theorem d_Md_product_66 : decode m_Md_product.2.1 66 = .ok (.aload_n 0, 1) := by decide +kernel
theorem d_Md_product_67 : decode m_Md_product.2.1 67 = .ok (.getfield 41, 3) := by decide +kernel
theorem d_Md_product_70 : decode m_Md_product.2.1 70 = .ok (.ifCond .ne 16, 3) := by decide +kernel
theorem d_Md_product_73 : decode m_Md_product.2.1 73 = .ok (.aload_n 0, 1) := by decide +kernel
theorem d_Md_product_74 : decode m_Md_product.2.1 74 = .ok (.bipush 41, 2) := by decide +kernel
theorem d_Md_product_76 : decode m_Md_product.2.1 76 = .ok (.iconst 0, 1) := by decide +kernel
theorem d_Md_product_77 : decode m_Md_product.2.1 77 = .ok (.iload_n 1, 1) := by decide +kernel
theorem d_Md_product_78 : decode m_Md_product.2.1 78 = .ok (.iadd, 1) := by decide +kernel
theorem d_Md_product_79 : decode m_Md_product.2.1 79 = .ok (.invokevirtual 90, 3) := by decide +kernel
theorem d_Md_product_82 : decode m_Md_product.2.1 82 = .ok (.aload_n 0, 1) := by decide +kernel
theorem d_Md_product_83 : decode m_Md_product.2.1 83 = .ok (.invokevirtual 141, 3) := by decide +kernel
theorem d_Md_product_86 : decode m_Md_product.2.1 86 = .ok (.return_, 1) := by decide +kernel
theorem d_Md_declare_0 : decode m_Md_declare.2.1 0 = .ok (.aload_n 0, 1) := by decide +kernel
theorem d_Md_declare_1 : decode m_Md_declare.2.1 1 = .ok (.getfield 107, 3) := by decide +kernel
theorem d_Md_declare_4 : decode m_Md_declare.2.1 4 = .ok (.iconst 1, 1) := by decide +kernel
theorem d_Md_declare_5 : decode m_Md_declare.2.1 5 = .ok (.isub, 1) := by decide +kernel
theorem d_Md_declare_6 : decode m_Md_declare.2.1 6 = .ok (.istore_n 2, 1) := by decide +kernel
theorem d_Md_declare_7 : decode m_Md_declare.2.1 7 = .ok (.aload_n 0, 1) := by decide +kernel
theorem d_Md_declare_8 : decode m_Md_declare.2.1 8 = .ok (.aload_n 0, 1) := by decide +kernel
theorem d_Md_declare_9 : decode m_Md_declare.2.1 9 = .ok (.getfield 107, 3) := by decide +kernel
theorem d_Md_declare_12 : decode m_Md_declare.2.1 12 = .ok (.ifCond .eq 10, 3) := by decide +kernel
theorem d_Md_declare_15 : decode m_Md_declare.2.1 15 = .ok (.aload_n 0, 1) := by decide +kernel
theorem d_Md_declare_16 : decode m_Md_declare.2.1 16 = .ok (.getfield 104, 3) := by decide +kernel
theorem d_Md_declare_19 : decode m_Md_declare.2.1 19 = .ok (.ifCond .le 7, 3) := by decide +kernel
theorem d_Md_declare_22 : decode m_Md_declare.2.1 22 = .ok (.iconst 1, 1) := by decide +kernel
theorem d_Md_declare_23 : decode m_Md_declare.2.1 23 = .ok (.goto 45, 3) := by decide +kernel
theorem d_Md_declare_26 : decode m_Md_declare.2.1 26 = .ok (.aload_n 0, 1) := by decide +kernel
theorem d_Md_declare_27 : decode m_Md_declare.2.1 27 = .ok (.getfield 117, 3) := by decide +kernel
theorem d_Md_declare_30 : decode m_Md_declare.2.1 30 = .ok (.bipush 8, 2) := by decide +kernel
theorem d_Md_declare_32 : decode m_Md_declare.2.1 32 = .ok (.if_icmp .ne 7, 3) := by decide +kernel
theorem d_Md_declare_35 : decode m_Md_declare.2.1 35 = .ok (.iconst 2, 1) := by decide +kernel
theorem d_Md_declare_36 : decode m_Md_declare.2.1 36 = .ok (.goto 32, 3) := by decide +kernel
theorem d_Md_declare_39 : decode m_Md_declare.2.1 39 = .ok (.aload_n 0, 1) := by decide +kernel
theorem d_Md_declare_40 : decode m_Md_declare.2.1 40 = .ok (.bipush 6, 2) := by decide +kernel
theorem d_Md_declare_42 : decode m_Md_declare.2.1 42 = .ok (.iload_n 2, 1) := by decide +kernel
theorem d_Md_declare_43 : decode m_Md_declare.2.1 43 = .ok (.iadd, 1) := by decide +kernel
theorem d_Md_declare_44 : decode m_Md_declare.2.1 44 = .ok (.iconst 0, 1) := by decide +kernel
theorem d_Md_declare_45 : decode m_Md_declare.2.1 45 = .ok (.invokevirtual 129, 3) := by decide +kernel
theorem d_Md_declare_48 : decode m_Md_declare.2.1 48 = .ok (.ifCond .ne 19, 3) := by decide +kernel
theorem d_Md_declare_51 : decode m_Md_declare.2.1 51 = .ok (.aload_n 0, 1) := by decide +kernel
theorem d_Md_declare_52 : decode m_Md_declare.2.1 52 = .ok (.bipush 6, 2) := by decide +kernel
theorem d_Md_declare_54 : decode m_Md_declare.2.1 54 = .ok (.iload_n 2, 1) := by decide +kernel
theorem d_Md_declare_55 : decode m_Md_declare.2.1 55 = .ok (.iadd, 1) := by decide +kernel
theorem d_Md_declare_56 : decode m_Md_declare.2.1 56 = .ok (.iconst 1, 1) := by decide +kernel
theorem d_Md_declare_57 : decode m_Md_declare.2.1 57 = .ok (.invokevirtual 129, 3) := by decide +kernel
theorem d_Md_declare_60 : decode m_Md_declare.2.1 60 = .ok (.ifCond .ne 7, 3) := by decide +kernel
theorem d_Md_declare_63 : decode m_Md_declare.2.1 63 = .ok (.iconst 3, 1) := by decide +kernel
theorem d_Md_declare_64 : decode m_Md_declare.2.1 64 = .ok (.goto 4, 3) := by decide +kernel
theorem d_Md_declare_67 : decode m_Md_declare.2.1 67 = .ok (.iconst 0, 1) := by decide +kernel
theorem d_Md_declare_68 : decode m_Md_declare.2.1 68 = .ok (.putfield 41, 3) := by decide +kernel
theorem d_Md_declare_71 : decode m_Md_declare.2.1 71 = .ok (.aload_n 0, 1) := by decide +kernel
theorem d_Md_declare_72 : decode m_Md_declare.2.1 72 = .ok (.getfield 41, 3) := by decide +kernel
theorem d_Md_declare_75 : decode m_Md_declare.2.1 75 = .ok (.ifCond .eq 5, 3) := by decide +kernel
theorem d_Md_declare_78 : decode m_Md_declare.2.1 78 = .ok (.iconst 0, 1) := by decide +kernel
theorem d_Md_declare_79 : decode m_Md_declare.2.1 79 = .ok (.ireturn, 1) := by decide +kernel
theorem d_Md_declare_80 : decode m_Md_declare.2.1 80 = .ok (.aload_n 0, 1) := by decide +kernel
theorem d_Md_declare_81 : decode m_Md_declare.2.1 81 = .ok (.iconst 0, 1) := by decide +kernel
theorem d_Md_declare_82 : decode m_Md_declare.2.1 82 = .ok (.iload_n 2, 1) := by decide +kernel
theorem d_Md_declare_83 : decode m_Md_declare.2.1 83 = .ok (.iadd, 1) := by decide +kernel
theorem d_Md_declare_84 : decode m_Md_declare.2.1 84 = .ok (.bipush 16, 2) := by decide +kernel
theorem d_Md_declare_86 : decode m_Md_declare.2.1 86 = .ok (.aload_n 0, 1) := by decide +kernel
theorem d_Md_declare_87 : decode m_Md_declare.2.1 87 = .ok (.getfield 117, 3) := by decide +kernel
theorem d_Md_declare_90 : decode m_Md_declare.2.1 90 = .ok (.iadd, 1) := by decide +kernel
theorem d_Md_declare_91 : decode m_Md_declare.2.1 91 = .ok (.invokevirtual 90, 3) := by decide +kernel
theorem d_Md_declare_94 : decode m_Md_declare.2.1 94 = .ok (.aload_n 0, 1) := by decide +kernel
theorem d_Md_declare_95 : decode m_Md_declare.2.1 95 = .ok (.getfield 19, 3) := by decide +kernel
theorem d_Md_declare_98 : decode m_Md_declare.2.1 98 = .ok (.aload_n 0, 1) := by decide +kernel
theorem d_Md_declare_99 : decode m_Md_declare.2.1 99 = .ok (.getfield 117, 3) := by decide +kernel
theorem d_Md_declare_102 : decode m_Md_declare.2.1 102 = .ok (.iload_n 1, 1) := by decide +kernel
theorem d_Md_declare_103 : decode m_Md_declare.2.1 103 = .ok (.bastore, 1) := by decide +kernel
theorem d_Md_declare_104 : decode m_Md_declare.2.1 104 = .ok (.aload_n 0, 1) := by decide +kernel
theorem d_Md_declare_105 : decode m_Md_declare.2.1 105 = .ok (.dup, 1) := by decide +kernel
theorem d_Md_declare_106 : decode m_Md_declare.2.1 106 = .ok (.getfield 117, 3) := by decide +kernel
theorem d_Md_declare_109 : decode m_Md_declare.2.1 109 = .ok (.iconst 1, 1) := by decide +kernel
theorem d_Md_declare_110 : decode m_Md_declare.2.1 110 = .ok (.iadd, 1) := by decide +kernel
theorem d_Md_declare_111 : decode m_Md_declare.2.1 111 = .ok (.putfield 117, 3) := by decide +kernel
theorem d_Md_declare_114 : decode m_Md_declare.2.1 114 = .ok (.aload_n 0, 1) := by decide +kernel
theorem d_Md_declare_115 : decode m_Md_declare.2.1 115 = .ok (.dup, 1) := by decide +kernel
theorem d_Md_declare_116 : decode m_Md_declare.2.1 116 = .ok (.getfield 107, 3) := by decide +kernel
theorem d_Md_declare_119 : decode m_Md_declare.2.1 119 = .ok (.iconst 1, 1) := by decide +kernel
theorem d_Md_declare_120 : decode m_Md_declare.2.1 120 = .ok (.isub, 1) := by decide +kernel
theorem d_Md_declare_121 : decode m_Md_declare.2.1 121 = .ok (.putfield 107, 3) := by decide +kernel
theorem d_Md_declare_124 : decode m_Md_declare.2.1 124 = .ok (.aload_n 0, 1) := by decide +kernel
theorem d_Md_declare_125 : decode m_Md_declare.2.1 125 = .ok (.getfield 117, 3) := by decide +kernel
theorem d_Md_declare_128 : decode m_Md_declare.2.1 128 = .ok (.iconst 1, 1) := by decide +kernel
theorem d_Md_declare_129 : decode m_Md_declare.2.1 129 = .ok (.isub, 1) := by decide +kernel
theorem d_Md_declare_130 : decode m_Md_declare.2.1 130 = .ok (.ireturn, 1) := by decide +kernel
theorem d_Md_isLeft_0 : decode m_Md_isLeft.2.1 0 = .ok (.iconst 0, 1) := by decide +kernel
theorem d_Md_isLeft_1 : decode m_Md_isLeft.2.1 1 = .ok (.istore_n 2, 1) := by decide +kernel
theorem d_Md_isLeft_2 : decode m_Md_isLeft.2.1 2 = .ok (.aload_n 0, 1) := by decide +kernel
theorem d_Md_isLeft_3 : decode m_Md_isLeft.2.1 3 = .ok (.iload_n 1, 1) := by decide +kernel
theorem d_Md_isLeft_4 : decode m_Md_isLeft.2.1 4 = .ok (.iload_n 2, 1) := by decide +kernel
theorem d_Md_isLeft_5 : decode m_Md_isLeft.2.1 5 = .ok (.invokevirtual 49, 3) := by decide +kernel
theorem d_Md_isLeft_8 : decode m_Md_isLeft.2.1 8 = .ok (.iconst 2, 1) := by decide +kernel
theorem d_Md_isLeft_9 : decode m_Md_isLeft.2.1 9 = .ok (.if_icmp .ne 9, 3) := by decide +kernel
theorem d_Md_isLeft_12 : decode m_Md_isLeft.2.1 12 = .ok (.iinc 2 1, 3) := by decide +kernel
theorem d_Md_isLeft_15 : decode m_Md_isLeft.2.1 15 = .ok (.goto (-13), 3) := by decide +kernel
theorem d_Md_isLeft_18 : decode m_Md_isLeft.2.1 18 = .ok (.aload_n 0, 1) := by decide +kernel
theorem d_Md_isLeft_19 : decode m_Md_isLeft.2.1 19 = .ok (.iload_n 1, 1) := by decide +kernel
theorem d_Md_isLeft_20 : decode m_Md_isLeft.2.1 20 = .ok (.iload_n 2, 1) := by decide +kernel
theorem d_Md_isLeft_21 : decode m_Md_isLeft.2.1 21 = .ok (.invokevirtual 49, 3) := by decide +kernel
theorem d_Md_isLeft_24 : decode m_Md_isLeft.2.1 24 = .ok (.bipush 10, 2) := by decide +kernel
theorem d_Md_isLeft_26 : decode m_Md_isLeft.2.1 26 = .ok (.isub, 1) := by decide +kernel
theorem d_Md_isLeft_27 : decode m_Md_isLeft.2.1 27 = .ok (.istore_n 3, 1) := by decide +kernel
theorem d_Md_isLeft_28 : decode m_Md_isLeft.2.1 28 = .ok (.iload_n 3, 1) := by decide +kernel
theorem d_Md_isLeft_29 : decode m_Md_isLeft.2.1 29 = .ok (.ifCond .lt 24, 3) := by decide +kernel
theorem d_Md_isLeft_32 : decode m_Md_isLeft.2.1 32 = .ok (.iload_n 3, 1) := by decide +kernel
theorem d_Md_isLeft_33 : decode m_Md_isLeft.2.1 33 = .ok (.aload_n 0, 1) := by decide +kernel
theorem d_Md_isLeft_34 : decode m_Md_isLeft.2.1 34 = .ok (.getfield 117, 3) := by decide +kernel
theorem d_Md_isLeft_37 : decode m_Md_isLeft.2.1 37 = .ok (.if_icmp .ge 16, 3) := by decide +kernel
theorem d_Md_isLeft_40 : decode m_Md_isLeft.2.1 40 = .ok (.aload_n 0, 1) := by decide +kernel
theorem d_Md_isLeft_41 : decode m_Md_isLeft.2.1 41 = .ok (.getfield 19, 3) := by decide +kernel
theorem d_Md_isLeft_44 : decode m_Md_isLeft.2.1 44 = .ok (.iload_n 3, 1) := by decide +kernel
theorem d_Md_isLeft_45 : decode m_Md_isLeft.2.1 45 = .ok (.baload, 1) := by decide +kernel
theorem d_Md_isLeft_46 : decode m_Md_isLeft.2.1 46 = .ok (.ifCond .eq 7, 3) := by decide +kernel
theorem d_Md_isLeft_49 : decode m_Md_isLeft.2.1 49 = .ok (.iconst 1, 1) := by decide +kernel
theorem d_Md_isLeft_50 : decode m_Md_isLeft.2.1 50 = .ok (.goto 4, 3) := by decide +kernel
theorem d_Md_isLeft_53 : decode m_Md_isLeft.2.1 53 = .ok (.iconst 0, 1) := by decide +kernel
theorem d_Md_isLeft_54 : decode m_Md_isLeft.2.1 54 = .ok (.istore 4, 2) := by decide +kernel
theorem d_Md_isLeft_56 : decode m_Md_isLeft.2.1 56 = .ok (.iconst 0, 1) := by decide +kernel
theorem d_Md_isLeft_57 : decode m_Md_isLeft.2.1 57 = .ok (.istore 5, 2) := by decide +kernel
theorem d_Md_isLeft_59 : decode m_Md_isLeft.2.1 59 = .ok (.iconst 0, 1) := by decide +kernel
theorem d_Md_isLeft_60 : decode m_Md_isLeft.2.1 60 = .ok (.istore 6, 2) := by decide +kernel
theorem d_Md_isLeft_62 : decode m_Md_isLeft.2.1 62 = .ok (.iload 6, 2) := by decide +kernel
theorem d_Md_isLeft_64 : decode m_Md_isLeft.2.1 64 = .ok (.aload_n 0, 1) := by decide +kernel
theorem d_Md_isLeft_65 : decode m_Md_isLeft.2.1 65 = .ok (.getfield 13, 3) := by decide +kernel
theorem d_Md_isLeft_68 : decode m_Md_isLeft.2.1 68 = .ok (.iload_n 1, 1) := by decide +kernel
theorem d_Md_isLeft_69 : decode m_Md_isLeft.2.1 69 = .ok (.iaload, 1) := by decide +kernel
theorem d_Md_isLeft_70 : decode m_Md_isLeft.2.1 70 = .ok (.if_icmp .ge 126, 3) := by decide +kernel
theorem d_Md_isLeft_73 : decode m_Md_isLeft.2.1 73 = .ok (.iload 4, 2) := by decide +kernel
theorem d_Md_isLeft_75 : decode m_Md_isLeft.2.1 75 = .ok (.ifCond .eq 121, 3) := by decide +kernel
theorem d_Md_isLeft_78 : decode m_Md_isLeft.2.1 78 = .ok (.aload_n 0, 1) := by decide +kernel
theorem d_Md_isLeft_79 : decode m_Md_isLeft.2.1 79 = .ok (.iload_n 1, 1) := by decide +kernel
theorem d_Md_isLeft_80 : decode m_Md_isLeft.2.1 80 = .ok (.iload 6, 2) := by decide +kernel
theorem d_Md_isLeft_82 : decode m_Md_isLeft.2.1 82 = .ok (.invokevirtual 49, 3) := by decide +kernel
theorem d_Md_isLeft_85 : decode m_Md_isLeft.2.1 85 = .ok (.istore 7, 2) := by decide +kernel
theorem d_Md_isLeft_87 : decode m_Md_isLeft.2.1 87 = .ok (.iload 7, 2) := by decide +kernel
theorem d_Md_isLeft_89 : decode m_Md_isLeft.2.1 89 = .ok (.iconst 2, 1) := by decide +kernel
theorem d_Md_isLeft_90 : decode m_Md_isLeft.2.1 90 = .ok (.if_icmp .ne 7, 3) := by decide +kernel
theorem d_Md_isLeft_93 : decode m_Md_isLeft.2.1 93 = .ok (.iconst 1, 1) := by decide +kernel
theorem d_Md_isLeft_94 : decode m_Md_isLeft.2.1 94 = .ok (.goto 4, 3) := by decide +kernel
theorem d_Md_isLeft_97 : decode m_Md_isLeft.2.1 97 = .ok (.iconst 0, 1) := by decide +kernel
theorem d_Md_isLeft_98 : decode m_Md_isLeft.2.1 98 = .ok (.istore 8, 2) := by decide +kernel
theorem d_Md_isLeft_100 : decode m_Md_isLeft.2.1 100 = .ok (.iload 7, 2) := by decide +kernel
theorem d_Md_isLeft_102 : decode m_Md_isLeft.2.1 102 = .ok (.bipush 10, 2) := by decide +kernel
theorem d_Md_isLeft_104 : decode m_Md_isLeft.2.1 104 = .ok (.if_icmp .ge 35, 3) := by decide +kernel
theorem d_Md_isLeft_107 : decode m_Md_isLeft.2.1 107 = .ok (.iload 8, 2) := by decide +kernel
theorem d_Md_isLeft_109 : decode m_Md_isLeft.2.1 109 = .ok (.ifCond .eq 34, 3) := by decide +kernel
theorem d_Md_isLeft_112 : decode m_Md_isLeft.2.1 112 = .ok (.aload_n 0, 1) := by decide +kernel
theorem d_Md_isLeft_113 : decode m_Md_isLeft.2.1 113 = .ok (.iload_n 1, 1) := by decide +kernel
theorem d_Md_isLeft_114 : decode m_Md_isLeft.2.1 114 = .ok (.iload 6, 2) := by decide +kernel
theorem d_Md_isLeft_116 : decode m_Md_isLeft.2.1 116 = .ok (.iconst 1, 1) := by decide +kernel
theorem d_Md_isLeft_117 : decode m_Md_isLeft.2.1 117 = .ok (.iadd, 1) := by decide +kernel
theorem d_Md_isLeft_118 : decode m_Md_isLeft.2.1 118 = .ok (.invokevirtual 49, 3) := by decide +kernel
theorem d_Md_isLeft_121 : decode m_Md_isLeft.2.1 121 = .ok (.bipush 100, 2) := by decide +kernel
theorem d_Md_isLeft_123 : decode m_Md_isLeft.2.1 123 = .ok (.if_icmp .ge 20, 3) := by decide +kernel
theorem d_Md_isLeft_126 : decode m_Md_isLeft.2.1 126 = .ok (.aload_n 0, 1) := by decide +kernel
theorem d_Md_isLeft_127 : decode m_Md_isLeft.2.1 127 = .ok (.iload_n 1, 1) := by decide +kernel
theorem d_Md_isLeft_128 : decode m_Md_isLeft.2.1 128 = .ok (.iload 6, 2) := by decide +kernel
theorem d_Md_isLeft_130 : decode m_Md_isLeft.2.1 130 = .ok (.iconst 1, 1) := by decide +kernel
theorem d_Md_isLeft_131 : decode m_Md_isLeft.2.1 131 = .ok (.iadd, 1) := by decide +kernel
theorem d_Md_isLeft_132 : decode m_Md_isLeft.2.1 132 = .ok (.invokevirtual 49, 3) := by decide +kernel
theorem d_Md_isLeft_135 : decode m_Md_isLeft.2.1 135 = .ok (.iconst 3, 1) := by decide +kernel
theorem d_Md_isLeft_136 : decode m_Md_isLeft.2.1 136 = .ok (.if_icmp .eq 7, 3) := by decide +kernel
theorem d_Md_isLeft_139 : decode m_Md_isLeft.2.1 139 = .ok (.iconst 1, 1) := by decide +kernel
theorem d_Md_isLeft_140 : decode m_Md_isLeft.2.1 140 = .ok (.goto 4, 3) := by decide +kernel
theorem d_Md_isLeft_143 : decode m_Md_isLeft.2.1 143 = .ok (.iconst 0, 1) := by decide +kernel
theorem d_Md_isLeft_144 : decode m_Md_isLeft.2.1 144 = .ok (.istore 4, 2) := by decide +kernel
theorem d_Md_isLeft_146 : decode m_Md_isLeft.2.1 146 = .ok (.iload 7, 2) := by decide +kernel
theorem d_Md_isLeft_148 : decode m_Md_isLeft.2.1 148 = .ok (.bipush 100, 2) := by decide +kernel
theorem d_Md_isLeft_150 : decode m_Md_isLeft.2.1 150 = .ok (.if_icmp .lt 40, 3) := by decide +kernel
theorem d_Md_isLeft_153 : decode m_Md_isLeft.2.1 153 = .ok (.iload 4, 2) := by decide +kernel
theorem d_Md_isLeft_155 : decode m_Md_isLeft.2.1 155 = .ok (.ifCond .eq 20, 3) := by decide +kernel
theorem d_Md_isLeft_158 : decode m_Md_isLeft.2.1 158 = .ok (.iload 5, 2) := by decide +kernel
theorem d_Md_isLeft_160 : decode m_Md_isLeft.2.1 160 = .ok (.iload 7, 2) := by decide +kernel
theorem d_Md_isLeft_162 : decode m_Md_isLeft.2.1 162 = .ok (.bipush 100, 2) := by decide +kernel
theorem d_Md_isLeft_164 : decode m_Md_isLeft.2.1 164 = .ok (.isub, 1) := by decide +kernel
theorem d_Md_isLeft_165 : decode m_Md_isLeft.2.1 165 = .ok (.ishr, 1) := by decide +kernel
theorem d_Md_isLeft_166 : decode m_Md_isLeft.2.1 166 = .ok (.iconst 1, 1) := by decide +kernel
theorem d_Md_isLeft_167 : decode m_Md_isLeft.2.1 167 = .ok (.iand, 1) := by decide +kernel
theorem d_Md_isLeft_168 : decode m_Md_isLeft.2.1 168 = .ok (.ifCond .ne 7, 3) := by decide +kernel
theorem d_Md_isLeft_171 : decode m_Md_isLeft.2.1 171 = .ok (.iconst 1, 1) := by decide +kernel
theorem d_Md_isLeft_172 : decode m_Md_isLeft.2.1 172 = .ok (.goto 4, 3) := by decide +kernel
theorem d_Md_isLeft_175 : decode m_Md_isLeft.2.1 175 = .ok (.iconst 0, 1) := by decide +kernel
theorem d_Md_isLeft_176 : decode m_Md_isLeft.2.1 176 = .ok (.istore 4, 2) := by decide +kernel
theorem d_Md_isLeft_178 : decode m_Md_isLeft.2.1 178 = .ok (.iload 5, 2) := by decide +kernel
theorem d_Md_isLeft_180 : decode m_Md_isLeft.2.1 180 = .ok (.iconst 1, 1) := by decide +kernel
theorem d_Md_isLeft_181 : decode m_Md_isLeft.2.1 181 = .ok (.iload 7, 2) := by decide +kernel
theorem d_Md_isLeft_183 : decode m_Md_isLeft.2.1 183 = .ok (.bipush 100, 2) := by decide +kernel
theorem d_Md_isLeft_185 : decode m_Md_isLeft.2.1 185 = .ok (.isub, 1) := by decide +kernel
theorem d_Md_isLeft_186 : decode m_Md_isLeft.2.1 186 = .ok (.ishl, 1) := by decide +kernel
theorem d_Md_isLeft_187 : decode m_Md_isLeft.2.1 187 = .ok (.ior, 1) := by decide +kernel
theorem d_Md_isLeft_188 : decode m_Md_isLeft.2.1 188 = .ok (.istore 5, 2) := by decide +kernel
theorem d_Md_isLeft_190 : decode m_Md_isLeft.2.1 190 = .ok (.iinc 6 1, 3) := by decide +kernel
theorem d_Md_isLeft_193 : decode m_Md_isLeft.2.1 193 = .ok (.goto (-131), 3) := by decide +kernel
theorem d_Md_isLeft_196 : decode m_Md_isLeft.2.1 196 = .ok (.iload 4, 2) := by decide +kernel
theorem d_Md_isLeft_198 : decode m_Md_isLeft.2.1 198 = .ok (.ifCond .eq 20, 3) := by decide +kernel
theorem d_Md_isLeft_201 : decode m_Md_isLeft.2.1 201 = .ok (.iload 5, 2) := by decide +kernel
theorem d_Md_isLeft_203 : decode m_Md_isLeft.2.1 203 = .ok (.iconst 1, 1) := by decide +kernel
theorem d_Md_isLeft_204 : decode m_Md_isLeft.2.1 204 = .ok (.aload_n 0, 1) := by decide +kernel
theorem d_Md_isLeft_205 : decode m_Md_isLeft.2.1 205 = .ok (.getfield 104, 3) := by decide +kernel
theorem d_Md_isLeft_208 : decode m_Md_isLeft.2.1 208 = .ok (.ishl, 1) := by decide +kernel
theorem d_Md_isLeft_209 : decode m_Md_isLeft.2.1 209 = .ok (.iconst 1, 1) := by decide +kernel
theorem d_Md_isLeft_210 : decode m_Md_isLeft.2.1 210 = .ok (.isub, 1) := by decide +kernel
theorem d_Md_isLeft_211 : decode m_Md_isLeft.2.1 211 = .ok (.if_icmp .ne 7, 3) := by decide +kernel
theorem d_Md_isLeft_214 : decode m_Md_isLeft.2.1 214 = .ok (.iconst 1, 1) := by decide +kernel
theorem d_Md_isLeft_215 : decode m_Md_isLeft.2.1 215 = .ok (.goto 4, 3) := by decide +kernel
theorem d_Md_isLeft_218 : decode m_Md_isLeft.2.1 218 = .ok (.iconst 0, 1) := by decide +kernel
theorem d_Md_isLeft_219 : decode m_Md_isLeft.2.1 219 = .ok (.ireturn, 1) := by decide +kernel
theorem d_Md_ruled_0 : decode m_Md_ruled.2.1 0 = .ok (.aload_n 0, 1) := by decide +kernel
theorem d_Md_ruled_1 : decode m_Md_ruled.2.1 1 = .ok (.getfield 107, 3) := by decide +kernel
theorem d_Md_ruled_4 : decode m_Md_ruled.2.1 4 = .ok (.iconst 2, 1) := by decide +kernel
theorem d_Md_ruled_5 : decode m_Md_ruled.2.1 5 = .ok (.if_icmp .ne 19, 3) := by decide +kernel
theorem d_Md_ruled_8 : decode m_Md_ruled.2.1 8 = .ok (.aload_n 0, 1) := by decide +kernel
theorem d_Md_ruled_9 : decode m_Md_ruled.2.1 9 = .ok (.iconst 0, 1) := by decide +kernel
theorem d_Md_ruled_10 : decode m_Md_ruled.2.1 10 = .ok (.invokevirtual 110, 3) := by decide +kernel
theorem d_Md_ruled_13 : decode m_Md_ruled.2.1 13 = .ok (.ifCond .eq 11, 3) := by decide +kernel
theorem d_Md_ruled_16 : decode m_Md_ruled.2.1 16 = .ok (.aload_n 0, 1) := by decide +kernel
theorem d_Md_ruled_17 : decode m_Md_ruled.2.1 17 = .ok (.iconst 1, 1) := by decide +kernel
theorem d_Md_ruled_18 : decode m_Md_ruled.2.1 18 = .ok (.invokevirtual 110, 3) := by decide +kernel
theorem d_Md_ruled_21 : decode m_Md_ruled.2.1 21 = .ok (.ifCond .ne 5, 3) := by decide +kernel
theorem d_Md_ruled_24 : decode m_Md_ruled.2.1 24 = .ok (.iconst 1, 1) := by decide +kernel
theorem d_Md_ruled_25 : decode m_Md_ruled.2.1 25 = .ok (.ireturn, 1) := by decide +kernel
theorem d_Md_ruled_26 : decode m_Md_ruled.2.1 26 = .ok (.aload_n 0, 1) := by decide +kernel
theorem d_Md_ruled_27 : decode m_Md_ruled.2.1 27 = .ok (.getfield 75, 3) := by decide +kernel
theorem d_Md_ruled_30 : decode m_Md_ruled.2.1 30 = .ok (.bipush 8, 2) := by decide +kernel
theorem d_Md_ruled_32 : decode m_Md_ruled.2.1 32 = .ok (.if_icmp .ne 5, 3) := by decide +kernel
theorem d_Md_ruled_35 : decode m_Md_ruled.2.1 35 = .ok (.iconst 2, 1) := by decide +kernel
theorem d_Md_ruled_36 : decode m_Md_ruled.2.1 36 = .ok (.ireturn, 1) := by decide +kernel
theorem d_Md_ruled_37 : decode m_Md_ruled.2.1 37 = .ok (.aload_n 0, 1) := by decide +kernel
theorem d_Md_ruled_38 : decode m_Md_ruled.2.1 38 = .ok (.iconst 0, 1) := by decide +kernel
theorem d_Md_ruled_39 : decode m_Md_ruled.2.1 39 = .ok (.invokevirtual 144, 3) := by decide +kernel
theorem d_Md_ruled_42 : decode m_Md_ruled.2.1 42 = .ok (.ifCond .ne 5, 3) := by decide +kernel
theorem d_Md_ruled_45 : decode m_Md_ruled.2.1 45 = .ok (.iconst 3, 1) := by decide +kernel
theorem d_Md_ruled_46 : decode m_Md_ruled.2.1 46 = .ok (.ireturn, 1) := by decide +kernel
theorem d_Md_ruled_47 : decode m_Md_ruled.2.1 47 = .ok (.aload_n 0, 1) := by decide +kernel
theorem d_Md_ruled_48 : decode m_Md_ruled.2.1 48 = .ok (.iconst 0, 1) := by decide +kernel
theorem d_Md_ruled_49 : decode m_Md_ruled.2.1 49 = .ok (.putfield 45, 3) := by decide +kernel
theorem d_Md_ruled_52 : decode m_Md_ruled.2.1 52 = .ok (.aload_n 0, 1) := by decide +kernel
theorem d_Md_ruled_53 : decode m_Md_ruled.2.1 53 = .ok (.bipush 6, 2) := by decide +kernel
theorem d_Md_ruled_55 : decode m_Md_ruled.2.1 55 = .ok (.invokevirtual 120, 3) := by decide +kernel
theorem d_Md_ruled_58 : decode m_Md_ruled.2.1 58 = .ok (.istore_n 1, 1) := by decide +kernel
theorem d_Md_ruled_59 : decode m_Md_ruled.2.1 59 = .ok (.aload_n 0, 1) := by decide +kernel
theorem d_Md_ruled_60 : decode m_Md_ruled.2.1 60 = .ok (.bipush 40, 2) := by decide +kernel
theorem d_Md_ruled_62 : decode m_Md_ruled.2.1 62 = .ok (.bipush 42, 2) := by decide +kernel
theorem d_Md_ruled_64 : decode m_Md_ruled.2.1 64 = .ok (.invokevirtual 90, 3) := by decide +kernel
theorem d_Md_ruled_67 : decode m_Md_ruled.2.1 67 = .ok (.aload_n 0, 1) := by decide +kernel
theorem d_Md_ruled_68 : decode m_Md_ruled.2.1 68 = .ok (.getfield 45, 3) := by decide +kernel
theorem d_Md_ruled_71 : decode m_Md_ruled.2.1 71 = .ok (.ifCond .eq 5, 3) := by decide +kernel
theorem d_Md_ruled_74 : decode m_Md_ruled.2.1 74 = .ok (.iconst 4, 1) := by decide +kernel
theorem d_Md_ruled_75 : decode m_Md_ruled.2.1 75 = .ok (.ireturn, 1) := by decide +kernel
theorem d_Md_ruled_76 : decode m_Md_ruled.2.1 76 = .ok (.aload_n 0, 1) := by decide +kernel
theorem d_Md_ruled_77 : decode m_Md_ruled.2.1 77 = .ok (.bipush 7, 2) := by decide +kernel
theorem d_Md_ruled_79 : decode m_Md_ruled.2.1 79 = .ok (.invokevirtual 120, 3) := by decide +kernel
theorem d_Md_ruled_82 : decode m_Md_ruled.2.1 82 = .ok (.istore_n 2, 1) := by decide +kernel
theorem d_Md_ruled_83 : decode m_Md_ruled.2.1 83 = .ok (.aload_n 0, 1) := by decide +kernel
theorem d_Md_ruled_84 : decode m_Md_ruled.2.1 84 = .ok (.getfield 45, 3) := by decide +kernel
theorem d_Md_ruled_87 : decode m_Md_ruled.2.1 87 = .ok (.ifCond .eq 7, 3) := by decide +kernel
theorem d_Md_ruled_90 : decode m_Md_ruled.2.1 90 = .ok (.iconst 4, 1) := by decide +kernel
theorem d_Md_ruled_91 : decode m_Md_ruled.2.1 91 = .ok (.goto 19, 3) := by decide +kernel
theorem d_Md_ruled_94 : decode m_Md_ruled.2.1 94 = .ok (.aload_n 0, 1) := by decide +kernel
theorem d_Md_ruled_95 : decode m_Md_ruled.2.1 95 = .ok (.bipush 40, 2) := by decide +kernel
theorem d_Md_ruled_97 : decode m_Md_ruled.2.1 97 = .ok (.bipush 42, 2) := by decide +kernel
theorem d_Md_ruled_99 : decode m_Md_ruled.2.1 99 = .ok (.invokevirtual 147, 3) := by decide +kernel
theorem d_Md_ruled_102 : decode m_Md_ruled.2.1 102 = .ok (.ifCond .eq 7, 3) := by decide +kernel
theorem d_Md_ruled_105 : decode m_Md_ruled.2.1 105 = .ok (.iconst 0, 1) := by decide +kernel
theorem d_Md_ruled_106 : decode m_Md_ruled.2.1 106 = .ok (.goto 4, 3) := by decide +kernel
theorem d_Md_ruled_109 : decode m_Md_ruled.2.1 109 = .ok (.iconst 3, 1) := by decide +kernel
theorem d_Md_ruled_110 : decode m_Md_ruled.2.1 110 = .ok (.ireturn, 1) := by decide +kernel
theorem d_Md_rule_0 : decode m_Md_rule.2.1 0 = .ok (.aload_n 0, 1) := by decide +kernel
theorem d_Md_rule_1 : decode m_Md_rule.2.1 1 = .ok (.aload_n 0, 1) := by decide +kernel
theorem d_Md_rule_2 : decode m_Md_rule.2.1 2 = .ok (.invokevirtual 150, 3) := by decide +kernel
theorem d_Md_rule_5 : decode m_Md_rule.2.1 5 = .ok (.putfield 41, 3) := by decide +kernel
theorem d_Md_rule_8 : decode m_Md_rule.2.1 8 = .ok (.aload_n 0, 1) := by decide +kernel
theorem d_Md_rule_9 : decode m_Md_rule.2.1 9 = .ok (.getfield 41, 3) := by decide +kernel
theorem d_Md_rule_12 : decode m_Md_rule.2.1 12 = .ok (.ifCond .eq 5, 3) := by decide +kernel
theorem d_Md_rule_15 : decode m_Md_rule.2.1 15 = .ok (.iconst 0, 1) := by decide +kernel
theorem d_Md_rule_16 : decode m_Md_rule.2.1 16 = .ok (.ireturn, 1) := by decide +kernel
theorem d_Md_rule_17 : decode m_Md_rule.2.1 17 = .ok (.aload_n 0, 1) := by decide +kernel
theorem d_Md_rule_18 : decode m_Md_rule.2.1 18 = .ok (.iconst 0, 1) := by decide +kernel
theorem d_Md_rule_19 : decode m_Md_rule.2.1 19 = .ok (.bipush 24, 2) := by decide +kernel
theorem d_Md_rule_21 : decode m_Md_rule.2.1 21 = .ok (.aload_n 0, 1) := by decide +kernel
theorem d_Md_rule_22 : decode m_Md_rule.2.1 22 = .ok (.getfield 75, 3) := by decide +kernel
theorem d_Md_rule_25 : decode m_Md_rule.2.1 25 = .ok (.iadd, 1) := by decide +kernel
theorem d_Md_rule_26 : decode m_Md_rule.2.1 26 = .ok (.invokevirtual 90, 3) := by decide +kernel
theorem d_Md_rule_29 : decode m_Md_rule.2.1 29 = .ok (.aload_n 0, 1) := by decide +kernel
theorem d_Md_rule_30 : decode m_Md_rule.2.1 30 = .ok (.iconst 1, 1) := by decide +kernel
theorem d_Md_rule_31 : decode m_Md_rule.2.1 31 = .ok (.bipush 32, 2) := by decide +kernel
theorem d_Md_rule_33 : decode m_Md_rule.2.1 33 = .ok (.aload_n 0, 1) := by decide +kernel
theorem d_Md_rule_34 : decode m_Md_rule.2.1 34 = .ok (.getfield 75, 3) := by decide +kernel
theorem d_Md_rule_37 : decode m_Md_rule.2.1 37 = .ok (.iadd, 1) := by decide +kernel
theorem d_Md_rule_38 : decode m_Md_rule.2.1 38 = .ok (.invokevirtual 90, 3) := by decide +kernel
theorem d_Md_rule_41 : decode m_Md_rule.2.1 41 = .ok (.aload_n 0, 1) := by decide +kernel
theorem d_Md_rule_42 : decode m_Md_rule.2.1 42 = .ok (.getfield 23, 3) := by decide +kernel
theorem d_Md_rule_45 : decode m_Md_rule.2.1 45 = .ok (.aload_n 0, 1) := by decide +kernel
theorem d_Md_rule_46 : decode m_Md_rule.2.1 46 = .ok (.getfield 75, 3) := by decide +kernel
theorem d_Md_rule_49 : decode m_Md_rule.2.1 49 = .ok (.aload_n 0, 1) := by decide +kernel
theorem d_Md_rule_50 : decode m_Md_rule.2.1 50 = .ok (.getfield 104, 3) := by decide +kernel
theorem d_Md_rule_53 : decode m_Md_rule.2.1 53 = .ok (.iastore, 1) := by decide +kernel
theorem d_Md_rule_54 : decode m_Md_rule.2.1 54 = .ok (.aload_n 0, 1) := by decide +kernel
theorem d_Md_rule_55 : decode m_Md_rule.2.1 55 = .ok (.dup, 1) := by decide +kernel
theorem d_Md_rule_56 : decode m_Md_rule.2.1 56 = .ok (.getfield 75, 3) := by decide +kernel
theorem d_Md_rule_59 : decode m_Md_rule.2.1 59 = .ok (.iconst 1, 1) := by decide +kernel
theorem d_Md_rule_60 : decode m_Md_rule.2.1 60 = .ok (.iadd, 1) := by decide +kernel
theorem d_Md_rule_61 : decode m_Md_rule.2.1 61 = .ok (.putfield 75, 3) := by decide +kernel
theorem d_Md_rule_64 : decode m_Md_rule.2.1 64 = .ok (.aload_n 0, 1) := by decide +kernel
theorem d_Md_rule_65 : decode m_Md_rule.2.1 65 = .ok (.iconst 0, 1) := by decide +kernel
theorem d_Md_rule_66 : decode m_Md_rule.2.1 66 = .ok (.putfield 107, 3) := by decide +kernel
theorem d_Md_rule_69 : decode m_Md_rule.2.1 69 = .ok (.aload_n 0, 1) := by decide +kernel
theorem d_Md_rule_70 : decode m_Md_rule.2.1 70 = .ok (.iconst 0, 1) := by decide +kernel
theorem d_Md_rule_71 : decode m_Md_rule.2.1 71 = .ok (.putfield 104, 3) := by decide +kernel
theorem d_Md_rule_74 : decode m_Md_rule.2.1 74 = .ok (.aload_n 0, 1) := by decide +kernel
theorem d_Md_rule_75 : decode m_Md_rule.2.1 75 = .ok (.getfield 75, 3) := by decide +kernel
theorem d_Md_rule_78 : decode m_Md_rule.2.1 78 = .ok (.iconst 1, 1) := by decide +kernel
theorem d_Md_rule_79 : decode m_Md_rule.2.1 79 = .ok (.isub, 1) := by decide +kernel
theorem d_Md_rule_80 : decode m_Md_rule.2.1 80 = .ok (.ireturn, 1) := by decide +kernel
theorem d_Md_normal_0 : decode m_Md_normal.2.1 0 = .ok (.aload_n 0, 1) := by decide +kernel
theorem d_Md_normal_1 : decode m_Md_normal.2.1 1 = .ok (.getfield 107, 3) := by decide +kernel
theorem d_Md_normal_4 : decode m_Md_normal.2.1 4 = .ok (.ifCond .ne 9, 3) := by decide +kernel
theorem d_Md_normal_7 : decode m_Md_normal.2.1 7 = .ok (.aload_n 0, 1) := by decide +kernel
theorem d_Md_normal_8 : decode m_Md_normal.2.1 8 = .ok (.iconst 1, 1) := by decide +kernel
theorem d_Md_normal_9 : decode m_Md_normal.2.1 9 = .ok (.invokevirtual 153, 3) := by decide +kernel
theorem d_Md_normal_12 : decode m_Md_normal.2.1 12 = .ok (.ireturn, 1) := by decide +kernel
theorem d_Md_normal_13 : decode m_Md_normal.2.1 13 = .ok (.aload_n 0, 1) := by decide +kernel
theorem d_Md_normal_14 : decode m_Md_normal.2.1 14 = .ok (.iconst 0, 1) := by decide +kernel
theorem d_Md_normal_15 : decode m_Md_normal.2.1 15 = .ok (.putfield 45, 3) := by decide +kernel
theorem d_Md_normal_18 : decode m_Md_normal.2.1 18 = .ok (.aload_n 0, 1) := by decide +kernel
theorem d_Md_normal_19 : decode m_Md_normal.2.1 19 = .ok (.iconst 0, 1) := by decide +kernel
theorem d_Md_normal_20 : decode m_Md_normal.2.1 20 = .ok (.aload_n 0, 1) := by decide +kernel
theorem d_Md_normal_21 : decode m_Md_normal.2.1 21 = .ok (.getfield 107, 3) := by decide +kernel
theorem d_Md_normal_24 : decode m_Md_normal.2.1 24 = .ok (.iadd, 1) := by decide +kernel
theorem d_Md_normal_25 : decode m_Md_normal.2.1 25 = .ok (.iconst 1, 1) := by decide +kernel
theorem d_Md_normal_26 : decode m_Md_normal.2.1 26 = .ok (.isub, 1) := by decide +kernel
theorem d_Md_normal_27 : decode m_Md_normal.2.1 27 = .ok (.invokevirtual 120, 3) := by decide +kernel
theorem d_Md_normal_30 : decode m_Md_normal.2.1 30 = .ok (.istore_n 1, 1) := by decide +kernel
theorem d_Md_normal_31 : decode m_Md_normal.2.1 31 = .ok (.aload_n 0, 1) := by decide +kernel
theorem d_Md_normal_32 : decode m_Md_normal.2.1 32 = .ok (.getfield 45, 3) := by decide +kernel
theorem d_Md_normal_35 : decode m_Md_normal.2.1 35 = .ok (.ifCond .eq 9, 3) := by decide +kernel
theorem d_Md_normal_38 : decode m_Md_normal.2.1 38 = .ok (.aload_n 0, 1) := by decide +kernel
theorem d_Md_normal_39 : decode m_Md_normal.2.1 39 = .ok (.iconst 2, 1) := by decide +kernel
theorem d_Md_normal_40 : decode m_Md_normal.2.1 40 = .ok (.invokevirtual 153, 3) := by decide +kernel
theorem d_Md_normal_43 : decode m_Md_normal.2.1 43 = .ok (.ireturn, 1) := by decide +kernel
theorem d_Md_normal_44 : decode m_Md_normal.2.1 44 = .ok (.aload_n 0, 1) := by decide +kernel
theorem d_Md_normal_45 : decode m_Md_normal.2.1 45 = .ok (.iconst 0, 1) := by decide +kernel
theorem d_Md_normal_46 : decode m_Md_normal.2.1 46 = .ok (.putfield 41, 3) := by decide +kernel
theorem d_Md_normal_49 : decode m_Md_normal.2.1 49 = .ok (.aload_n 0, 1) := by decide +kernel
theorem d_Md_normal_50 : decode m_Md_normal.2.1 50 = .ok (.bipush 40, 2) := by decide +kernel
theorem d_Md_normal_52 : decode m_Md_normal.2.1 52 = .ok (.iconst 0, 1) := by decide +kernel
theorem d_Md_normal_53 : decode m_Md_normal.2.1 53 = .ok (.aload_n 0, 1) := by decide +kernel
theorem d_Md_normal_54 : decode m_Md_normal.2.1 54 = .ok (.getfield 107, 3) := by decide +kernel
theorem d_Md_normal_57 : decode m_Md_normal.2.1 57 = .ok (.iadd, 1) := by decide +kernel
theorem d_Md_normal_58 : decode m_Md_normal.2.1 58 = .ok (.iconst 1, 1) := by decide +kernel
theorem d_Md_normal_59 : decode m_Md_normal.2.1 59 = .ok (.isub, 1) := by decide +kernel
theorem d_Md_normal_60 : decode m_Md_normal.2.1 60 = .ok (.invokevirtual 90, 3) := by decide +kernel
theorem d_Md_normal_63 : decode m_Md_normal.2.1 63 = .ok (.iload_n 1, 1) := by decide +kernel
theorem d_Md_normal_64 : decode m_Md_normal.2.1 64 = .ok (.ireturn, 1) := by decide +kernel
theorem d_Md_same_0 : decode m_Md_same.2.1 0 = .ok (.aload_n 0, 1) := by decide +kernel
theorem d_Md_same_1 : decode m_Md_same.2.1 1 = .ok (.iconst 0, 1) := by decide +kernel
theorem d_Md_same_2 : decode m_Md_same.2.1 2 = .ok (.putfield 41, 3) := by decide +kernel
theorem d_Md_same_5 : decode m_Md_same.2.1 5 = .ok (.aload_n 0, 1) := by decide +kernel
theorem d_Md_same_6 : decode m_Md_same.2.1 6 = .ok (.getfield 107, 3) := by decide +kernel
theorem d_Md_same_9 : decode m_Md_same.2.1 9 = .ok (.iconst 2, 1) := by decide +kernel
theorem d_Md_same_10 : decode m_Md_same.2.1 10 = .ok (.if_icmp .lt 28, 3) := by decide +kernel
theorem d_Md_same_13 : decode m_Md_same.2.1 13 = .ok (.aload_n 0, 1) := by decide +kernel
theorem d_Md_same_14 : decode m_Md_same.2.1 14 = .ok (.getfield 16, 3) := by decide +kernel
theorem d_Md_same_17 : decode m_Md_same.2.1 17 = .ok (.aload_n 0, 1) := by decide +kernel
theorem d_Md_same_18 : decode m_Md_same.2.1 18 = .ok (.getfield 107, 3) := by decide +kernel
theorem d_Md_same_21 : decode m_Md_same.2.1 21 = .ok (.iconst 1, 1) := by decide +kernel
theorem d_Md_same_22 : decode m_Md_same.2.1 22 = .ok (.isub, 1) := by decide +kernel
theorem d_Md_same_23 : decode m_Md_same.2.1 23 = .ok (.iaload, 1) := by decide +kernel
theorem d_Md_same_24 : decode m_Md_same.2.1 24 = .ok (.aload_n 0, 1) := by decide +kernel
theorem d_Md_same_25 : decode m_Md_same.2.1 25 = .ok (.getfield 16, 3) := by decide +kernel
theorem d_Md_same_28 : decode m_Md_same.2.1 28 = .ok (.aload_n 0, 1) := by decide +kernel
theorem d_Md_same_29 : decode m_Md_same.2.1 29 = .ok (.getfield 107, 3) := by decide +kernel
theorem d_Md_same_32 : decode m_Md_same.2.1 32 = .ok (.iconst 2, 1) := by decide +kernel
theorem d_Md_same_33 : decode m_Md_same.2.1 33 = .ok (.isub, 1) := by decide +kernel
theorem d_Md_same_34 : decode m_Md_same.2.1 34 = .ok (.iaload, 1) := by decide +kernel
theorem d_Md_same_35 : decode m_Md_same.2.1 35 = .ok (.if_icmp .eq 10, 3) := by decide +kernel
theorem d_Md_same_38 : decode m_Md_same.2.1 38 = .ok (.aload_n 0, 1) := by decide +kernel
theorem d_Md_same_39 : decode m_Md_same.2.1 39 = .ok (.iconst 1, 1) := by decide +kernel
theorem d_Md_same_40 : decode m_Md_same.2.1 40 = .ok (.putfield 41, 3) := by decide +kernel
theorem d_Md_same_43 : decode m_Md_same.2.1 43 = .ok (.iconst 0, 1) := by decide +kernel
theorem d_Md_same_44 : decode m_Md_same.2.1 44 = .ok (.ireturn, 1) := by decide +kernel
theorem d_Md_same_45 : decode m_Md_same.2.1 45 = .ok (.aload_n 0, 1) := by decide +kernel
theorem d_Md_same_46 : decode m_Md_same.2.1 46 = .ok (.iconst 0, 1) := by decide +kernel
theorem d_Md_same_47 : decode m_Md_same.2.1 47 = .ok (.putfield 45, 3) := by decide +kernel
theorem d_Md_same_50 : decode m_Md_same.2.1 50 = .ok (.aload_n 0, 1) := by decide +kernel
theorem d_Md_same_51 : decode m_Md_same.2.1 51 = .ok (.iconst 0, 1) := by decide +kernel
theorem d_Md_same_52 : decode m_Md_same.2.1 52 = .ok (.aload_n 0, 1) := by decide +kernel
theorem d_Md_same_53 : decode m_Md_same.2.1 53 = .ok (.getfield 107, 3) := by decide +kernel
theorem d_Md_same_56 : decode m_Md_same.2.1 56 = .ok (.iadd, 1) := by decide +kernel
theorem d_Md_same_57 : decode m_Md_same.2.1 57 = .ok (.iconst 2, 1) := by decide +kernel
theorem d_Md_same_58 : decode m_Md_same.2.1 58 = .ok (.isub, 1) := by decide +kernel
theorem d_Md_same_59 : decode m_Md_same.2.1 59 = .ok (.invokevirtual 120, 3) := by decide +kernel
theorem d_Md_same_62 : decode m_Md_same.2.1 62 = .ok (.istore_n 1, 1) := by decide +kernel
theorem d_Md_same_63 : decode m_Md_same.2.1 63 = .ok (.aload_n 0, 1) := by decide +kernel
theorem d_Md_same_64 : decode m_Md_same.2.1 64 = .ok (.bipush 40, 2) := by decide +kernel
theorem d_Md_same_66 : decode m_Md_same.2.1 66 = .ok (.bipush 42, 2) := by decide +kernel
theorem d_Md_same_68 : decode m_Md_same.2.1 68 = .ok (.invokevirtual 90, 3) := by decide +kernel
theorem d_Md_same_71 : decode m_Md_same.2.1 71 = .ok (.aload_n 0, 1) := by decide +kernel
theorem d_Md_same_72 : decode m_Md_same.2.1 72 = .ok (.getfield 45, 3) := by decide +kernel
theorem d_Md_same_75 : decode m_Md_same.2.1 75 = .ok (.ifCond .eq 7, 3) := by decide +kernel
theorem d_Md_same_78 : decode m_Md_same.2.1 78 = .ok (.iconst 0, 1) := by decide +kernel
theorem d_Md_same_79 : decode m_Md_same.2.1 79 = .ok (.goto 15, 3) := by decide +kernel
theorem d_Md_same_82 : decode m_Md_same.2.1 82 = .ok (.aload_n 0, 1) := by decide +kernel
theorem d_Md_same_83 : decode m_Md_same.2.1 83 = .ok (.iconst 0, 1) := by decide +kernel
theorem d_Md_same_84 : decode m_Md_same.2.1 84 = .ok (.aload_n 0, 1) := by decide +kernel
theorem d_Md_same_85 : decode m_Md_same.2.1 85 = .ok (.getfield 107, 3) := by decide +kernel
theorem d_Md_same_88 : decode m_Md_same.2.1 88 = .ok (.iadd, 1) := by decide +kernel
theorem d_Md_same_89 : decode m_Md_same.2.1 89 = .ok (.iconst 1, 1) := by decide +kernel
theorem d_Md_same_90 : decode m_Md_same.2.1 90 = .ok (.isub, 1) := by decide +kernel
theorem d_Md_same_91 : decode m_Md_same.2.1 91 = .ok (.invokevirtual 120, 3) := by decide +kernel
theorem d_Md_same_94 : decode m_Md_same.2.1 94 = .ok (.istore_n 2, 1) := by decide +kernel
theorem d_Md_same_95 : decode m_Md_same.2.1 95 = .ok (.aload_n 0, 1) := by decide +kernel
theorem d_Md_same_96 : decode m_Md_same.2.1 96 = .ok (.aload_n 0, 1) := by decide +kernel
theorem d_Md_same_97 : decode m_Md_same.2.1 97 = .ok (.getfield 45, 3) := by decide +kernel
theorem d_Md_same_100 : decode m_Md_same.2.1 100 = .ok (.ifCond .eq 7, 3) := by decide +kernel
theorem d_Md_same_103 : decode m_Md_same.2.1 103 = .ok (.iconst 2, 1) := by decide +kernel
theorem d_Md_same_104 : decode m_Md_same.2.1 104 = .ok (.goto 4, 3) := by decide +kernel
theorem d_Md_same_107 : decode m_Md_same.2.1 107 = .ok (.iconst 0, 1) := by decide +kernel
theorem d_Md_same_108 : decode m_Md_same.2.1 108 = .ok (.putfield 41, 3) := by decide +kernel
theorem d_Md_same_111 : decode m_Md_same.2.1 111 = .ok (.aload_n 0, 1) := by decide +kernel
theorem d_Md_same_112 : decode m_Md_same.2.1 112 = .ok (.getfield 45, 3) := by decide +kernel
theorem d_Md_same_115 : decode m_Md_same.2.1 115 = .ok (.ifCond .ne 18, 3) := by decide +kernel
theorem d_Md_same_118 : decode m_Md_same.2.1 118 = .ok (.aload_n 0, 1) := by decide +kernel
theorem d_Md_same_119 : decode m_Md_same.2.1 119 = .ok (.bipush 40, 2) := by decide +kernel
theorem d_Md_same_121 : decode m_Md_same.2.1 121 = .ok (.bipush 42, 2) := by decide +kernel
theorem d_Md_same_123 : decode m_Md_same.2.1 123 = .ok (.invokevirtual 147, 3) := by decide +kernel
theorem d_Md_same_126 : decode m_Md_same.2.1 126 = .ok (.ifCond .eq 7, 3) := by decide +kernel
theorem d_Md_same_129 : decode m_Md_same.2.1 129 = .ok (.iconst 1, 1) := by decide +kernel
theorem d_Md_same_130 : decode m_Md_same.2.1 130 = .ok (.goto 4, 3) := by decide +kernel
theorem d_Md_same_133 : decode m_Md_same.2.1 133 = .ok (.iconst 0, 1) := by decide +kernel
theorem d_Md_same_134 : decode m_Md_same.2.1 134 = .ok (.ireturn, 1) := by decide +kernel
theorem d_Md_drop_0 : decode m_Md_drop.2.1 0 = .ok (.aload_n 0, 1) := by decide +kernel
theorem d_Md_drop_1 : decode m_Md_drop.2.1 1 = .ok (.iconst 0, 1) := by decide +kernel
theorem d_Md_drop_2 : decode m_Md_drop.2.1 2 = .ok (.putfield 41, 3) := by decide +kernel
theorem d_Md_drop_5 : decode m_Md_drop.2.1 5 = .ok (.aload_n 0, 1) := by decide +kernel
theorem d_Md_drop_6 : decode m_Md_drop.2.1 6 = .ok (.getfield 107, 3) := by decide +kernel
theorem d_Md_drop_9 : decode m_Md_drop.2.1 9 = .ok (.ifCond .ne 5, 3) := by decide +kernel
theorem d_Md_drop_12 : decode m_Md_drop.2.1 12 = .ok (.iconst 0, 1) := by decide +kernel
theorem d_Md_drop_13 : decode m_Md_drop.2.1 13 = .ok (.ireturn, 1) := by decide +kernel
theorem d_Md_drop_14 : decode m_Md_drop.2.1 14 = .ok (.aload_n 0, 1) := by decide +kernel
theorem d_Md_drop_15 : decode m_Md_drop.2.1 15 = .ok (.dup, 1) := by decide +kernel
theorem d_Md_drop_16 : decode m_Md_drop.2.1 16 = .ok (.getfield 107, 3) := by decide +kernel
theorem d_Md_drop_19 : decode m_Md_drop.2.1 19 = .ok (.iconst 1, 1) := by decide +kernel
theorem d_Md_drop_20 : decode m_Md_drop.2.1 20 = .ok (.isub, 1) := by decide +kernel
theorem d_Md_drop_21 : decode m_Md_drop.2.1 21 = .ok (.putfield 107, 3) := by decide +kernel
theorem d_Md_drop_24 : decode m_Md_drop.2.1 24 = .ok (.iconst 1, 1) := by decide +kernel
theorem d_Md_drop_25 : decode m_Md_drop.2.1 25 = .ok (.ireturn, 1) := by decide +kernel
theorem d_Md_leave_0 : decode m_Md_leave.2.1 0 = .ok (.aload_n 0, 1) := by decide +kernel
theorem d_Md_leave_1 : decode m_Md_leave.2.1 1 = .ok (.iconst 0, 1) := by decide +kernel
theorem d_Md_leave_2 : decode m_Md_leave.2.1 2 = .ok (.putfield 41, 3) := by decide +kernel
theorem d_Md_leave_5 : decode m_Md_leave.2.1 5 = .ok (.aload_n 0, 1) := by decide +kernel
theorem d_Md_leave_6 : decode m_Md_leave.2.1 6 = .ok (.getfield 104, 3) := by decide +kernel
theorem d_Md_leave_9 : decode m_Md_leave.2.1 9 = .ok (.ifCond .eq 23, 3) := by decide +kernel
theorem d_Md_leave_12 : decode m_Md_leave.2.1 12 = .ok (.aload_n 0, 1) := by decide +kernel
theorem d_Md_leave_13 : decode m_Md_leave.2.1 13 = .ok (.invokevirtual 132, 3) := by decide +kernel
theorem d_Md_leave_16 : decode m_Md_leave.2.1 16 = .ok (.ifCond .eq 16, 3) := by decide +kernel
theorem d_Md_leave_19 : decode m_Md_leave.2.1 19 = .ok (.aload_n 0, 1) := by decide +kernel
theorem d_Md_leave_20 : decode m_Md_leave.2.1 20 = .ok (.aload_n 0, 1) := by decide +kernel
theorem d_Md_leave_21 : decode m_Md_leave.2.1 21 = .ok (.getfield 107, 3) := by decide +kernel
theorem d_Md_leave_24 : decode m_Md_leave.2.1 24 = .ok (.iconst 1, 1) := by decide +kernel
theorem d_Md_leave_25 : decode m_Md_leave.2.1 25 = .ok (.isub, 1) := by decide +kernel
theorem d_Md_leave_26 : decode m_Md_leave.2.1 26 = .ok (.invokevirtual 110, 3) := by decide +kernel
theorem d_Md_leave_29 : decode m_Md_leave.2.1 29 = .ok (.ifCond .eq 5, 3) := by decide +kernel
theorem d_Md_leave_32 : decode m_Md_leave.2.1 32 = .ok (.iconst 0, 1) := by decide +kernel
theorem d_Md_leave_33 : decode m_Md_leave.2.1 33 = .ok (.ireturn, 1) := by decide +kernel
theorem d_Md_leave_34 : decode m_Md_leave.2.1 34 = .ok (.aload_n 0, 1) := by decide +kernel
theorem d_Md_leave_35 : decode m_Md_leave.2.1 35 = .ok (.dup, 1) := by decide +kernel
theorem d_Md_leave_36 : decode m_Md_leave.2.1 36 = .ok (.getfield 104, 3) := by decide +kernel
theorem d_Md_leave_39 : decode m_Md_leave.2.1 39 = .ok (.iconst 1, 1) := by decide +kernel
theorem d_Md_leave_40 : decode m_Md_leave.2.1 40 = .ok (.isub, 1) := by decide +kernel
theorem d_Md_leave_41 : decode m_Md_leave.2.1 41 = .ok (.putfield 104, 3) := by decide +kernel
theorem d_Md_leave_44 : decode m_Md_leave.2.1 44 = .ok (.iconst 1, 1) := by decide +kernel
theorem d_Md_leave_45 : decode m_Md_leave.2.1 45 = .ok (.ireturn, 1) := by decide +kernel
theorem d_Md_counts_0 : decode m_Md_counts.2.1 0 = .ok (.aload_n 0, 1) := by decide +kernel
theorem d_Md_counts_1 : decode m_Md_counts.2.1 1 = .ok (.iconst 0, 1) := by decide +kernel
theorem d_Md_counts_2 : decode m_Md_counts.2.1 2 = .ok (.putfield 41, 3) := by decide +kernel
theorem d_Md_counts_5 : decode m_Md_counts.2.1 5 = .ok (.aload_n 0, 1) := by decide +kernel
theorem d_Md_counts_6 : decode m_Md_counts.2.1 6 = .ok (.getfield 107, 3) := by decide +kernel
theorem d_Md_counts_9 : decode m_Md_counts.2.1 9 = .ok (.bipush 8, 2) := by decide +kernel
theorem d_Md_counts_11 : decode m_Md_counts.2.1 11 = .ok (.aload_n 0, 1) := by decide +kernel
theorem d_Md_counts_12 : decode m_Md_counts.2.1 12 = .ok (.getfield 104, 3) := by decide +kernel
theorem d_Md_counts_15 : decode m_Md_counts.2.1 15 = .ok (.imul, 1) := by decide +kernel
theorem d_Md_counts_16 : decode m_Md_counts.2.1 16 = .ok (.iadd, 1) := by decide +kernel
theorem d_Md_counts_17 : decode m_Md_counts.2.1 17 = .ok (.bipush 64, 2) := by decide +kernel
theorem d_Md_counts_19 : decode m_Md_counts.2.1 19 = .ok (.aload_n 0, 1) := by decide +kernel
theorem d_Md_counts_20 : decode m_Md_counts.2.1 20 = .ok (.getfield 117, 3) := by decide +kernel
theorem d_Md_counts_23 : decode m_Md_counts.2.1 23 = .ok (.imul, 1) := by decide +kernel
theorem d_Md_counts_24 : decode m_Md_counts.2.1 24 = .ok (.iadd, 1) := by decide +kernel
theorem d_Md_counts_25 : decode m_Md_counts.2.1 25 = .ok (.sipush 1024, 3) := by decide +kernel
theorem d_Md_counts_28 : decode m_Md_counts.2.1 28 = .ok (.aload_n 0, 1) := by decide +kernel
theorem d_Md_counts_29 : decode m_Md_counts.2.1 29 = .ok (.getfield 75, 3) := by decide +kernel
theorem d_Md_counts_32 : decode m_Md_counts.2.1 32 = .ok (.imul, 1) := by decide +kernel
theorem d_Md_counts_33 : decode m_Md_counts.2.1 33 = .ok (.iadd, 1) := by decide +kernel
theorem d_Md_counts_34 : decode m_Md_counts.2.1 34 = .ok (.ireturn, 1) := by decide +kernel
theorem d_Md_seen_0 : decode m_Md_seen.2.1 0 = .ok (.iload_n 2, 1) := by decide +kernel
theorem d_Md_seen_1 : decode m_Md_seen.2.1 1 = .ok (.ifCond .lt 22, 3) := by decide +kernel
theorem d_Md_seen_4 : decode m_Md_seen.2.1 4 = .ok (.iload_n 2, 1) := by decide +kernel
theorem d_Md_seen_5 : decode m_Md_seen.2.1 5 = .ok (.aload_n 0, 1) := by decide +kernel
theorem d_Md_seen_6 : decode m_Md_seen.2.1 6 = .ok (.getfield 13, 3) := by decide +kernel
theorem d_Md_seen_9 : decode m_Md_seen.2.1 9 = .ok (.iload_n 1, 1) := by decide +kernel
theorem d_Md_seen_10 : decode m_Md_seen.2.1 10 = .ok (.iaload, 1) := by decide +kernel
theorem d_Md_seen_11 : decode m_Md_seen.2.1 11 = .ok (.if_icmp .ge 12, 3) := by decide +kernel
theorem d_Md_seen_14 : decode m_Md_seen.2.1 14 = .ok (.aload_n 0, 1) := by decide +kernel
theorem d_Md_seen_15 : decode m_Md_seen.2.1 15 = .ok (.iload_n 1, 1) := by decide +kernel
theorem d_Md_seen_16 : decode m_Md_seen.2.1 16 = .ok (.iload_n 2, 1) := by decide +kernel
theorem d_Md_seen_17 : decode m_Md_seen.2.1 17 = .ok (.invokevirtual 49, 3) := by decide +kernel
theorem d_Md_seen_20 : decode m_Md_seen.2.1 20 = .ok (.goto 4, 3) := by decide +kernel
theorem d_Md_seen_23 : decode m_Md_seen.2.1 23 = .ok (.iconst (-1), 1) := by decide +kernel
theorem d_Md_seen_24 : decode m_Md_seen.2.1 24 = .ok (.ireturn, 1) := by decide +kernel
theorem d_Md_judgement_0 : decode m_Md_judgement.2.1 0 = .ok (.aload_n 0, 1) := by decide +kernel
theorem d_Md_judgement_1 : decode m_Md_judgement.2.1 1 = .ok (.iconst 0, 1) := by decide +kernel
theorem d_Md_judgement_2 : decode m_Md_judgement.2.1 2 = .ok (.putfield 41, 3) := by decide +kernel
theorem d_Md_judgement_5 : decode m_Md_judgement.2.1 5 = .ok (.iload_n 1, 1) := by decide +kernel
theorem d_Md_judgement_6 : decode m_Md_judgement.2.1 6 = .ok (.ifCond .lt 11, 3) := by decide +kernel
theorem d_Md_judgement_9 : decode m_Md_judgement.2.1 9 = .ok (.iload_n 1, 1) := by decide +kernel
theorem d_Md_judgement_10 : decode m_Md_judgement.2.1 10 = .ok (.aload_n 0, 1) := by decide +kernel
theorem d_Md_judgement_11 : decode m_Md_judgement.2.1 11 = .ok (.getfield 107, 3) := by decide +kernel
theorem d_Md_judgement_14 : decode m_Md_judgement.2.1 14 = .ok (.if_icmp .lt 7, 3) := by decide +kernel
theorem d_Md_judgement_17 : decode m_Md_judgement.2.1 17 = .ok (.iconst (-1), 1) := by decide +kernel
theorem d_Md_judgement_18 : decode m_Md_judgement.2.1 18 = .ok (.goto 27, 3) := by decide +kernel
theorem d_Md_judgement_21 : decode m_Md_judgement.2.1 21 = .ok (.aload_n 0, 1) := by decide +kernel
theorem d_Md_judgement_22 : decode m_Md_judgement.2.1 22 = .ok (.iload_n 2, 1) := by decide +kernel
theorem d_Md_judgement_23 : decode m_Md_judgement.2.1 23 = .ok (.ifCond .eq 8, 3) := by decide +kernel
theorem d_Md_judgement_26 : decode m_Md_judgement.2.1 26 = .ok (.bipush 6, 2) := by decide +kernel
theorem d_Md_judgement_28 : decode m_Md_judgement.2.1 28 = .ok (.goto 4, 3) := by decide +kernel
theorem d_Md_judgement_31 : decode m_Md_judgement.2.1 31 = .ok (.iconst 0, 1) := by decide +kernel
theorem d_Md_judgement_32 : decode m_Md_judgement.2.1 32 = .ok (.aload_n 0, 1) := by decide +kernel
theorem d_Md_judgement_33 : decode m_Md_judgement.2.1 33 = .ok (.getfield 107, 3) := by decide +kernel
theorem d_Md_judgement_36 : decode m_Md_judgement.2.1 36 = .ok (.iadd, 1) := by decide +kernel
theorem d_Md_judgement_37 : decode m_Md_judgement.2.1 37 = .ok (.iconst 1, 1) := by decide +kernel
theorem d_Md_judgement_38 : decode m_Md_judgement.2.1 38 = .ok (.isub, 1) := by decide +kernel
theorem d_Md_judgement_39 : decode m_Md_judgement.2.1 39 = .ok (.iload_n 1, 1) := by decide +kernel
theorem d_Md_judgement_40 : decode m_Md_judgement.2.1 40 = .ok (.isub, 1) := by decide +kernel
theorem d_Md_judgement_41 : decode m_Md_judgement.2.1 41 = .ok (.iload_n 3, 1) := by decide +kernel
theorem d_Md_judgement_42 : decode m_Md_judgement.2.1 42 = .ok (.invokevirtual 156, 3) := by decide +kernel
theorem d_Md_judgement_45 : decode m_Md_judgement.2.1 45 = .ok (.ireturn, 1) := by decide +kernel
theorem d_Md_made_0 : decode m_Md_made.2.1 0 = .ok (.aload_n 0, 1) := by decide +kernel
theorem d_Md_made_1 : decode m_Md_made.2.1 1 = .ok (.iconst 0, 1) := by decide +kernel
theorem d_Md_made_2 : decode m_Md_made.2.1 2 = .ok (.putfield 41, 3) := by decide +kernel
theorem d_Md_made_5 : decode m_Md_made.2.1 5 = .ok (.iload_n 1, 1) := by decide +kernel
theorem d_Md_made_6 : decode m_Md_made.2.1 6 = .ok (.ifCond .lt 11, 3) := by decide +kernel
theorem d_Md_made_9 : decode m_Md_made.2.1 9 = .ok (.iload_n 1, 1) := by decide +kernel
theorem d_Md_made_10 : decode m_Md_made.2.1 10 = .ok (.aload_n 0, 1) := by decide +kernel
theorem d_Md_made_11 : decode m_Md_made.2.1 11 = .ok (.getfield 107, 3) := by decide +kernel
theorem d_Md_made_14 : decode m_Md_made.2.1 14 = .ok (.if_icmp .lt 7, 3) := by decide +kernel
theorem d_Md_made_17 : decode m_Md_made.2.1 17 = .ok (.iconst (-1), 1) := by decide +kernel
theorem d_Md_made_18 : decode m_Md_made.2.1 18 = .ok (.goto 16, 3) := by decide +kernel
theorem d_Md_made_21 : decode m_Md_made.2.1 21 = .ok (.aload_n 0, 1) := by decide +kernel
theorem d_Md_made_22 : decode m_Md_made.2.1 22 = .ok (.getfield 16, 3) := by decide +kernel
theorem d_Md_made_25 : decode m_Md_made.2.1 25 = .ok (.aload_n 0, 1) := by decide +kernel
theorem d_Md_made_26 : decode m_Md_made.2.1 26 = .ok (.getfield 107, 3) := by decide +kernel
theorem d_Md_made_29 : decode m_Md_made.2.1 29 = .ok (.iconst 1, 1) := by decide +kernel
theorem d_Md_made_30 : decode m_Md_made.2.1 30 = .ok (.isub, 1) := by decide +kernel
theorem d_Md_made_31 : decode m_Md_made.2.1 31 = .ok (.iload_n 1, 1) := by decide +kernel
theorem d_Md_made_32 : decode m_Md_made.2.1 32 = .ok (.isub, 1) := by decide +kernel
theorem d_Md_made_33 : decode m_Md_made.2.1 33 = .ok (.iaload, 1) := by decide +kernel
theorem d_Md_made_34 : decode m_Md_made.2.1 34 = .ok (.ireturn, 1) := by decide +kernel
theorem d_Md_entry_0 : decode m_Md_entry.2.1 0 = .ok (.aload_n 0, 1) := by decide +kernel
theorem d_Md_entry_1 : decode m_Md_entry.2.1 1 = .ok (.iconst 0, 1) := by decide +kernel
theorem d_Md_entry_2 : decode m_Md_entry.2.1 2 = .ok (.putfield 41, 3) := by decide +kernel
theorem d_Md_entry_5 : decode m_Md_entry.2.1 5 = .ok (.iload_n 1, 1) := by decide +kernel
theorem d_Md_entry_6 : decode m_Md_entry.2.1 6 = .ok (.ifCond .lt 11, 3) := by decide +kernel
theorem d_Md_entry_9 : decode m_Md_entry.2.1 9 = .ok (.iload_n 1, 1) := by decide +kernel
theorem d_Md_entry_10 : decode m_Md_entry.2.1 10 = .ok (.aload_n 0, 1) := by decide +kernel
theorem d_Md_entry_11 : decode m_Md_entry.2.1 11 = .ok (.getfield 104, 3) := by decide +kernel
theorem d_Md_entry_14 : decode m_Md_entry.2.1 14 = .ok (.if_icmp .lt 7, 3) := by decide +kernel
theorem d_Md_entry_17 : decode m_Md_entry.2.1 17 = .ok (.iconst (-1), 1) := by decide +kernel
theorem d_Md_entry_18 : decode m_Md_entry.2.1 18 = .ok (.goto 19, 3) := by decide +kernel
theorem d_Md_entry_21 : decode m_Md_entry.2.1 21 = .ok (.aload_n 0, 1) := by decide +kernel
theorem d_Md_entry_22 : decode m_Md_entry.2.1 22 = .ok (.bipush 12, 2) := by decide +kernel
theorem d_Md_entry_24 : decode m_Md_entry.2.1 24 = .ok (.aload_n 0, 1) := by decide +kernel
theorem d_Md_entry_25 : decode m_Md_entry.2.1 25 = .ok (.getfield 104, 3) := by decide +kernel
theorem d_Md_entry_28 : decode m_Md_entry.2.1 28 = .ok (.iadd, 1) := by decide +kernel
theorem d_Md_entry_29 : decode m_Md_entry.2.1 29 = .ok (.iconst 1, 1) := by decide +kernel
theorem d_Md_entry_30 : decode m_Md_entry.2.1 30 = .ok (.isub, 1) := by decide +kernel
theorem d_Md_entry_31 : decode m_Md_entry.2.1 31 = .ok (.iload_n 1, 1) := by decide +kernel
theorem d_Md_entry_32 : decode m_Md_entry.2.1 32 = .ok (.isub, 1) := by decide +kernel
theorem d_Md_entry_33 : decode m_Md_entry.2.1 33 = .ok (.iload_n 2, 1) := by decide +kernel
theorem d_Md_entry_34 : decode m_Md_entry.2.1 34 = .ok (.invokevirtual 156, 3) := by decide +kernel
theorem d_Md_entry_37 : decode m_Md_entry.2.1 37 = .ok (.ireturn, 1) := by decide +kernel
theorem d_Md_type_0 : decode m_Md_type.2.1 0 = .ok (.aload_n 0, 1) := by decide +kernel
theorem d_Md_type_1 : decode m_Md_type.2.1 1 = .ok (.iconst 0, 1) := by decide +kernel
theorem d_Md_type_2 : decode m_Md_type.2.1 2 = .ok (.putfield 41, 3) := by decide +kernel
theorem d_Md_type_5 : decode m_Md_type.2.1 5 = .ok (.iload_n 1, 1) := by decide +kernel
theorem d_Md_type_6 : decode m_Md_type.2.1 6 = .ok (.ifCond .lt 11, 3) := by decide +kernel
theorem d_Md_type_9 : decode m_Md_type.2.1 9 = .ok (.iload_n 1, 1) := by decide +kernel
theorem d_Md_type_10 : decode m_Md_type.2.1 10 = .ok (.aload_n 0, 1) := by decide +kernel
theorem d_Md_type_11 : decode m_Md_type.2.1 11 = .ok (.getfield 117, 3) := by decide +kernel
theorem d_Md_type_14 : decode m_Md_type.2.1 14 = .ok (.if_icmp .lt 5, 3) := by decide +kernel
theorem d_Md_type_17 : decode m_Md_type.2.1 17 = .ok (.iconst (-1), 1) := by decide +kernel
theorem d_Md_type_18 : decode m_Md_type.2.1 18 = .ok (.ireturn, 1) := by decide +kernel
theorem d_Md_type_19 : decode m_Md_type.2.1 19 = .ok (.iload_n 2, 1) := by decide +kernel
theorem d_Md_type_20 : decode m_Md_type.2.1 20 = .ok (.iconst (-1), 1) := by decide +kernel
theorem d_Md_type_21 : decode m_Md_type.2.1 21 = .ok (.if_icmp .ne 20, 3) := by decide +kernel
theorem d_Md_type_24 : decode m_Md_type.2.1 24 = .ok (.aload_n 0, 1) := by decide +kernel
theorem d_Md_type_25 : decode m_Md_type.2.1 25 = .ok (.getfield 19, 3) := by decide +kernel
theorem d_Md_type_28 : decode m_Md_type.2.1 28 = .ok (.iload_n 1, 1) := by decide +kernel
theorem d_Md_type_29 : decode m_Md_type.2.1 29 = .ok (.baload, 1) := by decide +kernel
theorem d_Md_type_30 : decode m_Md_type.2.1 30 = .ok (.ifCond .eq 7, 3) := by decide +kernel
theorem d_Md_type_33 : decode m_Md_type.2.1 33 = .ok (.iconst 1, 1) := by decide +kernel
theorem d_Md_type_34 : decode m_Md_type.2.1 34 = .ok (.goto 16, 3) := by decide +kernel
theorem d_Md_type_37 : decode m_Md_type.2.1 37 = .ok (.iconst 0, 1) := by decide +kernel
theorem d_Md_type_38 : decode m_Md_type.2.1 38 = .ok (.goto 12, 3) := by decide +kernel
theorem d_Md_type_41 : decode m_Md_type.2.1 41 = .ok (.aload_n 0, 1) := by decide +kernel
theorem d_Md_type_42 : decode m_Md_type.2.1 42 = .ok (.bipush 16, 2) := by decide +kernel
theorem d_Md_type_44 : decode m_Md_type.2.1 44 = .ok (.iload_n 1, 1) := by decide +kernel
theorem d_Md_type_45 : decode m_Md_type.2.1 45 = .ok (.iadd, 1) := by decide +kernel
theorem d_Md_type_46 : decode m_Md_type.2.1 46 = .ok (.iload_n 2, 1) := by decide +kernel
theorem d_Md_type_47 : decode m_Md_type.2.1 47 = .ok (.invokevirtual 156, 3) := by decide +kernel
theorem d_Md_type_50 : decode m_Md_type.2.1 50 = .ok (.ireturn, 1) := by decide +kernel
theorem d_Md_side_0 : decode m_Md_side.2.1 0 = .ok (.aload_n 0, 1) := by decide +kernel
theorem d_Md_side_1 : decode m_Md_side.2.1 1 = .ok (.iconst 0, 1) := by decide +kernel
theorem d_Md_side_2 : decode m_Md_side.2.1 2 = .ok (.putfield 41, 3) := by decide +kernel
theorem d_Md_side_5 : decode m_Md_side.2.1 5 = .ok (.iload_n 1, 1) := by decide +kernel
theorem d_Md_side_6 : decode m_Md_side.2.1 6 = .ok (.ifCond .lt 11, 3) := by decide +kernel
theorem d_Md_side_9 : decode m_Md_side.2.1 9 = .ok (.iload_n 1, 1) := by decide +kernel
theorem d_Md_side_10 : decode m_Md_side.2.1 10 = .ok (.aload_n 0, 1) := by decide +kernel
theorem d_Md_side_11 : decode m_Md_side.2.1 11 = .ok (.getfield 75, 3) := by decide +kernel
theorem d_Md_side_14 : decode m_Md_side.2.1 14 = .ok (.if_icmp .lt 5, 3) := by decide +kernel
theorem d_Md_side_17 : decode m_Md_side.2.1 17 = .ok (.iconst (-1), 1) := by decide +kernel
theorem d_Md_side_18 : decode m_Md_side.2.1 18 = .ok (.ireturn, 1) := by decide +kernel
theorem d_Md_side_19 : decode m_Md_side.2.1 19 = .ok (.iload_n 3, 1) := by decide +kernel
theorem d_Md_side_20 : decode m_Md_side.2.1 20 = .ok (.iconst (-1), 1) := by decide +kernel
theorem d_Md_side_21 : decode m_Md_side.2.1 21 = .ok (.if_icmp .ne 12, 3) := by decide +kernel
theorem d_Md_side_24 : decode m_Md_side.2.1 24 = .ok (.aload_n 0, 1) := by decide +kernel
theorem d_Md_side_25 : decode m_Md_side.2.1 25 = .ok (.getfield 23, 3) := by decide +kernel
theorem d_Md_side_28 : decode m_Md_side.2.1 28 = .ok (.iload_n 1, 1) := by decide +kernel
theorem d_Md_side_29 : decode m_Md_side.2.1 29 = .ok (.iaload, 1) := by decide +kernel
theorem d_Md_side_30 : decode m_Md_side.2.1 30 = .ok (.goto 21, 3) := by decide +kernel
theorem d_Md_side_33 : decode m_Md_side.2.1 33 = .ok (.aload_n 0, 1) := by decide +kernel
theorem d_Md_side_34 : decode m_Md_side.2.1 34 = .ok (.iload_n 2, 1) := by decide +kernel
theorem d_Md_side_35 : decode m_Md_side.2.1 35 = .ok (.ifCond .eq 8, 3) := by decide +kernel
theorem d_Md_side_38 : decode m_Md_side.2.1 38 = .ok (.bipush 32, 2) := by decide +kernel
theorem d_Md_side_40 : decode m_Md_side.2.1 40 = .ok (.goto 5, 3) := by decide +kernel
theorem d_Md_side_43 : decode m_Md_side.2.1 43 = .ok (.bipush 24, 2) := by decide +kernel
theorem d_Md_side_45 : decode m_Md_side.2.1 45 = .ok (.iload_n 1, 1) := by decide +kernel
theorem d_Md_side_46 : decode m_Md_side.2.1 46 = .ok (.iadd, 1) := by decide +kernel
theorem d_Md_side_47 : decode m_Md_side.2.1 47 = .ok (.iload_n 3, 1) := by decide +kernel
theorem d_Md_side_48 : decode m_Md_side.2.1 48 = .ok (.invokevirtual 156, 3) := by decide +kernel
theorem d_Md_side_51 : decode m_Md_side.2.1 51 = .ok (.ireturn, 1) := by decide +kernel
