theorem d_TK_init_0 : decode m_TK_init.2.1 0 = .ok (.aload_n 0, 1) := by decide +kernel
theorem d_TK_init_1 : decode m_TK_init.2.1 1 = .ok (.invokespecial 1, 3) := by decide +kernel
theorem d_TK_init_4 : decode m_TK_init.2.1 4 = .ok (.aload_n 0, 1) := by decide +kernel
theorem d_TK_init_5 : decode m_TK_init.2.1 5 = .ok (.bipush 6, 2) := by decide +kernel
theorem d_TK_init_7 : decode m_TK_init.2.1 7 = .ok (.anewarray 9, 3) := by decide +kernel
theorem d_TK_init_10 : decode m_TK_init.2.1 10 = .ok (.putfield 11, 3) := by decide +kernel
theorem d_TK_init_13 : decode m_TK_init.2.1 13 = .ok (.aload_n 0, 1) := by decide +kernel
theorem d_TK_init_14 : decode m_TK_init.2.1 14 = .ok (.iconst 0, 1) := by decide +kernel
theorem d_TK_init_15 : decode m_TK_init.2.1 15 = .ok (.putfield 15, 3) := by decide +kernel
theorem d_TK_init_18 : decode m_TK_init.2.1 18 = .ok (.aload_n 0, 1) := by decide +kernel
theorem d_TK_init_19 : decode m_TK_init.2.1 19 = .ok (.iconst 4, 1) := by decide +kernel
theorem d_TK_init_20 : decode m_TK_init.2.1 20 = .ok (.anewarray 19, 3) := by decide +kernel
theorem d_TK_init_23 : decode m_TK_init.2.1 23 = .ok (.putfield 21, 3) := by decide +kernel
theorem d_TK_init_26 : decode m_TK_init.2.1 26 = .ok (.aload_n 0, 1) := by decide +kernel
theorem d_TK_init_27 : decode m_TK_init.2.1 27 = .ok (.iconst 0, 1) := by decide +kernel
theorem d_TK_init_28 : decode m_TK_init.2.1 28 = .ok (.putfield 25, 3) := by decide +kernel
theorem d_TK_init_31 : decode m_TK_init.2.1 31 = .ok (.aload_n 0, 1) := by decide +kernel
theorem d_TK_init_32 : decode m_TK_init.2.1 32 = .ok (.bipush 8, 2) := by decide +kernel
theorem d_TK_init_34 : decode m_TK_init.2.1 34 = .ok (.anewarray 19, 3) := by decide +kernel
theorem d_TK_init_37 : decode m_TK_init.2.1 37 = .ok (.putfield 28, 3) := by decide +kernel
theorem d_TK_init_40 : decode m_TK_init.2.1 40 = .ok (.aload_n 0, 1) := by decide +kernel
theorem d_TK_init_41 : decode m_TK_init.2.1 41 = .ok (.bipush 8, 2) := by decide +kernel
theorem d_TK_init_43 : decode m_TK_init.2.1 43 = .ok (.newarray .boolean, 2) := by decide +kernel
theorem d_TK_init_45 : decode m_TK_init.2.1 45 = .ok (.putfield 31, 3) := by decide +kernel
theorem d_TK_init_48 : decode m_TK_init.2.1 48 = .ok (.aload_n 0, 1) := by decide +kernel
theorem d_TK_init_49 : decode m_TK_init.2.1 49 = .ok (.iconst 0, 1) := by decide +kernel
theorem d_TK_init_50 : decode m_TK_init.2.1 50 = .ok (.putfield 35, 3) := by decide +kernel
theorem d_TK_init_53 : decode m_TK_init.2.1 53 = .ok (.aload_n 0, 1) := by decide +kernel
theorem d_TK_init_54 : decode m_TK_init.2.1 54 = .ok (.new 38, 3) := by decide +kernel
theorem d_TK_init_57 : decode m_TK_init.2.1 57 = .ok (.dup, 1) := by decide +kernel
theorem d_TK_init_58 : decode m_TK_init.2.1 58 = .ok (.invokespecial 40, 3) := by decide +kernel
theorem d_TK_init_61 : decode m_TK_init.2.1 61 = .ok (.putfield 41, 3) := by decide +kernel
theorem d_TK_init_64 : decode m_TK_init.2.1 64 = .ok (.aload_n 0, 1) := by decide +kernel
theorem d_TK_init_65 : decode m_TK_init.2.1 65 = .ok (.new 19, 3) := by decide +kernel
theorem d_TK_init_68 : decode m_TK_init.2.1 68 = .ok (.dup, 1) := by decide +kernel
theorem d_TK_init_69 : decode m_TK_init.2.1 69 = .ok (.invokespecial 45, 3) := by decide +kernel
theorem d_TK_init_72 : decode m_TK_init.2.1 72 = .ok (.putfield 46, 3) := by decide +kernel
theorem d_TK_init_75 : decode m_TK_init.2.1 75 = .ok (.aload_n 0, 1) := by decide +kernel
theorem d_TK_init_76 : decode m_TK_init.2.1 76 = .ok (.new 19, 3) := by decide +kernel
theorem d_TK_init_79 : decode m_TK_init.2.1 79 = .ok (.dup, 1) := by decide +kernel
theorem d_TK_init_80 : decode m_TK_init.2.1 80 = .ok (.invokespecial 45, 3) := by decide +kernel
theorem d_TK_init_83 : decode m_TK_init.2.1 83 = .ok (.putfield 50, 3) := by decide +kernel
theorem d_TK_init_86 : decode m_TK_init.2.1 86 = .ok (.aload_n 0, 1) := by decide +kernel
theorem d_TK_init_87 : decode m_TK_init.2.1 87 = .ok (.new 19, 3) := by decide +kernel
theorem d_TK_init_90 : decode m_TK_init.2.1 90 = .ok (.dup, 1) := by decide +kernel
theorem d_TK_init_91 : decode m_TK_init.2.1 91 = .ok (.invokespecial 45, 3) := by decide +kernel
theorem d_TK_init_94 : decode m_TK_init.2.1 94 = .ok (.putfield 53, 3) := by decide +kernel
theorem d_TK_init_97 : decode m_TK_init.2.1 97 = .ok (.aload_n 0, 1) := by decide +kernel
theorem d_TK_init_98 : decode m_TK_init.2.1 98 = .ok (.new 19, 3) := by decide +kernel
theorem d_TK_init_101 : decode m_TK_init.2.1 101 = .ok (.dup, 1) := by decide +kernel
theorem d_TK_init_102 : decode m_TK_init.2.1 102 = .ok (.invokespecial 45, 3) := by decide +kernel
theorem d_TK_init_105 : decode m_TK_init.2.1 105 = .ok (.putfield 56, 3) := by decide +kernel
theorem d_TK_init_108 : decode m_TK_init.2.1 108 = .ok (.iconst 0, 1) := by decide +kernel
theorem d_TK_init_109 : decode m_TK_init.2.1 109 = .ok (.istore_n 1, 1) := by decide +kernel
theorem d_TK_init_110 : decode m_TK_init.2.1 110 = .ok (.iload_n 1, 1) := by decide +kernel
theorem d_TK_init_111 : decode m_TK_init.2.1 111 = .ok (.bipush 6, 2) := by decide +kernel
theorem d_TK_init_113 : decode m_TK_init.2.1 113 = .ok (.if_icmp .ge 22, 3) := by decide +kernel
theorem d_TK_init_116 : decode m_TK_init.2.1 116 = .ok (.aload_n 0, 1) := by decide +kernel
theorem d_TK_init_117 : decode m_TK_init.2.1 117 = .ok (.getfield 11, 3) := by decide +kernel
theorem d_TK_init_120 : decode m_TK_init.2.1 120 = .ok (.iload_n 1, 1) := by decide +kernel
theorem d_TK_init_121 : decode m_TK_init.2.1 121 = .ok (.new 9, 3) := by decide +kernel
theorem d_TK_init_124 : decode m_TK_init.2.1 124 = .ok (.dup, 1) := by decide +kernel
theorem d_TK_init_125 : decode m_TK_init.2.1 125 = .ok (.invokespecial 59, 3) := by decide +kernel
theorem d_TK_init_128 : decode m_TK_init.2.1 128 = .ok (.aastore, 1) := by decide +kernel
theorem d_TK_init_129 : decode m_TK_init.2.1 129 = .ok (.iinc 1 1, 3) := by decide +kernel
theorem d_TK_init_132 : decode m_TK_init.2.1 132 = .ok (.goto (-22), 3) := by decide +kernel
theorem d_TK_init_135 : decode m_TK_init.2.1 135 = .ok (.iconst 0, 1) := by decide +kernel
theorem d_TK_init_136 : decode m_TK_init.2.1 136 = .ok (.istore_n 1, 1) := by decide +kernel
theorem d_TK_init_137 : decode m_TK_init.2.1 137 = .ok (.iload_n 1, 1) := by decide +kernel
theorem d_TK_init_138 : decode m_TK_init.2.1 138 = .ok (.iconst 4, 1) := by decide +kernel
theorem d_TK_init_139 : decode m_TK_init.2.1 139 = .ok (.if_icmp .ge 22, 3) := by decide +kernel
theorem d_TK_init_142 : decode m_TK_init.2.1 142 = .ok (.aload_n 0, 1) := by decide +kernel
theorem d_TK_init_143 : decode m_TK_init.2.1 143 = .ok (.getfield 21, 3) := by decide +kernel
theorem d_TK_init_146 : decode m_TK_init.2.1 146 = .ok (.iload_n 1, 1) := by decide +kernel
theorem d_TK_init_147 : decode m_TK_init.2.1 147 = .ok (.new 19, 3) := by decide +kernel
theorem d_TK_init_150 : decode m_TK_init.2.1 150 = .ok (.dup, 1) := by decide +kernel
theorem d_TK_init_151 : decode m_TK_init.2.1 151 = .ok (.invokespecial 45, 3) := by decide +kernel
theorem d_TK_init_154 : decode m_TK_init.2.1 154 = .ok (.aastore, 1) := by decide +kernel
theorem d_TK_init_155 : decode m_TK_init.2.1 155 = .ok (.iinc 1 1, 3) := by decide +kernel
theorem d_TK_init_158 : decode m_TK_init.2.1 158 = .ok (.goto (-21), 3) := by decide +kernel
theorem d_TK_init_161 : decode m_TK_init.2.1 161 = .ok (.iconst 0, 1) := by decide +kernel
theorem d_TK_init_162 : decode m_TK_init.2.1 162 = .ok (.istore_n 1, 1) := by decide +kernel
theorem d_TK_init_163 : decode m_TK_init.2.1 163 = .ok (.iload_n 1, 1) := by decide +kernel
theorem d_TK_init_164 : decode m_TK_init.2.1 164 = .ok (.bipush 8, 2) := by decide +kernel
theorem d_TK_init_166 : decode m_TK_init.2.1 166 = .ok (.if_icmp .ge 22, 3) := by decide +kernel
theorem d_TK_init_169 : decode m_TK_init.2.1 169 = .ok (.aload_n 0, 1) := by decide +kernel
theorem d_TK_init_170 : decode m_TK_init.2.1 170 = .ok (.getfield 28, 3) := by decide +kernel
theorem d_TK_init_173 : decode m_TK_init.2.1 173 = .ok (.iload_n 1, 1) := by decide +kernel
theorem d_TK_init_174 : decode m_TK_init.2.1 174 = .ok (.new 19, 3) := by decide +kernel
theorem d_TK_init_177 : decode m_TK_init.2.1 177 = .ok (.dup, 1) := by decide +kernel
theorem d_TK_init_178 : decode m_TK_init.2.1 178 = .ok (.invokespecial 45, 3) := by decide +kernel
theorem d_TK_init_181 : decode m_TK_init.2.1 181 = .ok (.aastore, 1) := by decide +kernel
theorem d_TK_init_182 : decode m_TK_init.2.1 182 = .ok (.iinc 1 1, 3) := by decide +kernel
theorem d_TK_init_185 : decode m_TK_init.2.1 185 = .ok (.goto (-22), 3) := by decide +kernel
theorem d_TK_init_188 : decode m_TK_init.2.1 188 = .ok (.return_, 1) := by decide +kernel
theorem d_TK_sort_0 : decode m_TK_sort.2.1 0 = .ok (.aload_n 0, 1) := by decide +kernel
theorem d_TK_sort_1 : decode m_TK_sort.2.1 1 = .ok (.invokevirtual 60, 3) := by decide +kernel
theorem d_TK_sort_4 : decode m_TK_sort.2.1 4 = .ok (.astore_n 1, 1) := by decide +kernel
theorem d_TK_sort_5 : decode m_TK_sort.2.1 5 = .ok (.aload_n 1, 1) := by decide +kernel
theorem d_TK_sort_6 : decode m_TK_sort.2.1 6 = .ok (.getfield 64, 3) := by decide +kernel
theorem d_TK_sort_9 : decode m_TK_sort.2.1 9 = .ok (.iconst 0, 1) := by decide +kernel
theorem d_TK_sort_10 : decode m_TK_sort.2.1 10 = .ok (.invokevirtual 67, 3) := by decide +kernel
theorem d_TK_sort_13 : decode m_TK_sort.2.1 13 = .ok (.aload_n 1, 1) := by decide +kernel
theorem d_TK_sort_14 : decode m_TK_sort.2.1 14 = .ok (.getfield 71, 3) := by decide +kernel
theorem d_TK_sort_17 : decode m_TK_sort.2.1 17 = .ok (.iconst 1, 1) := by decide +kernel
theorem d_TK_sort_18 : decode m_TK_sort.2.1 18 = .ok (.invokevirtual 67, 3) := by decide +kernel
theorem d_TK_sort_21 : decode m_TK_sort.2.1 21 = .ok (.return_, 1) := by decide +kernel
theorem d_TK_constant_0 : decode m_TK_constant.2.1 0 = .ok (.aload_n 0, 1) := by decide +kernel
theorem d_TK_constant_1 : decode m_TK_constant.2.1 1 = .ok (.iload_n 1, 1) := by decide +kernel
theorem d_TK_constant_2 : decode m_TK_constant.2.1 2 = .ok (.invokevirtual 74, 3) := by decide +kernel
theorem d_TK_constant_5 : decode m_TK_constant.2.1 5 = .ok (.ifCond .ne 11, 3) := by decide +kernel
theorem d_TK_constant_8 : decode m_TK_constant.2.1 8 = .ok (.new 78, 3) := by decide +kernel
theorem d_TK_constant_11 : decode m_TK_constant.2.1 11 = .ok (.dup, 1) := by decide +kernel
theorem d_TK_constant_12 : decode m_TK_constant.2.1 12 = .ok (.invokespecial 80, 3) := by decide +kernel
theorem d_TK_constant_15 : decode m_TK_constant.2.1 15 = .ok (.athrow, 1) := by decide +kernel
theorem d_TK_constant_16 : decode m_TK_constant.2.1 16 = .ok (.aload_n 0, 1) := by decide +kernel
theorem d_TK_constant_17 : decode m_TK_constant.2.1 17 = .ok (.invokevirtual 60, 3) := by decide +kernel
theorem d_TK_constant_20 : decode m_TK_constant.2.1 20 = .ok (.astore_n 2, 1) := by decide +kernel
theorem d_TK_constant_21 : decode m_TK_constant.2.1 21 = .ok (.aload_n 2, 1) := by decide +kernel
theorem d_TK_constant_22 : decode m_TK_constant.2.1 22 = .ok (.getfield 64, 3) := by decide +kernel
theorem d_TK_constant_25 : decode m_TK_constant.2.1 25 = .ok (.bipush 10, 2) := by decide +kernel
theorem d_TK_constant_27 : decode m_TK_constant.2.1 27 = .ok (.iload_n 1, 1) := by decide +kernel
theorem d_TK_constant_28 : decode m_TK_constant.2.1 28 = .ok (.iadd, 1) := by decide +kernel
theorem d_TK_constant_29 : decode m_TK_constant.2.1 29 = .ok (.invokevirtual 67, 3) := by decide +kernel
theorem d_TK_constant_32 : decode m_TK_constant.2.1 32 = .ok (.aload_n 2, 1) := by decide +kernel
theorem d_TK_constant_33 : decode m_TK_constant.2.1 33 = .ok (.getfield 71, 3) := by decide +kernel
theorem d_TK_constant_36 : decode m_TK_constant.2.1 36 = .ok (.aload_n 0, 1) := by decide +kernel
theorem d_TK_constant_37 : decode m_TK_constant.2.1 37 = .ok (.getfield 28, 3) := by decide +kernel
theorem d_TK_constant_40 : decode m_TK_constant.2.1 40 = .ok (.iload_n 1, 1) := by decide +kernel
theorem d_TK_constant_41 : decode m_TK_constant.2.1 41 = .ok (.aaload, 1) := by decide +kernel
theorem d_TK_constant_42 : decode m_TK_constant.2.1 42 = .ok (.invokevirtual 81, 3) := by decide +kernel
theorem d_TK_constant_45 : decode m_TK_constant.2.1 45 = .ok (.return_, 1) := by decide +kernel
theorem d_TK_variable_0 : decode m_TK_variable.2.1 0 = .ok (.aload_n 0, 1) := by decide +kernel
theorem d_TK_variable_1 : decode m_TK_variable.2.1 1 = .ok (.iload_n 1, 1) := by decide +kernel
theorem d_TK_variable_2 : decode m_TK_variable.2.1 2 = .ok (.invokevirtual 85, 3) := by decide +kernel
theorem d_TK_variable_5 : decode m_TK_variable.2.1 5 = .ok (.ifCond .ne 11, 3) := by decide +kernel
theorem d_TK_variable_8 : decode m_TK_variable.2.1 8 = .ok (.new 78, 3) := by decide +kernel
theorem d_TK_variable_11 : decode m_TK_variable.2.1 11 = .ok (.dup, 1) := by decide +kernel
theorem d_TK_variable_12 : decode m_TK_variable.2.1 12 = .ok (.invokespecial 80, 3) := by decide +kernel
theorem d_TK_variable_15 : decode m_TK_variable.2.1 15 = .ok (.athrow, 1) := by decide +kernel
theorem d_TK_variable_16 : decode m_TK_variable.2.1 16 = .ok (.aload_n 0, 1) := by decide +kernel
theorem d_TK_variable_17 : decode m_TK_variable.2.1 17 = .ok (.invokevirtual 60, 3) := by decide +kernel
theorem d_TK_variable_20 : decode m_TK_variable.2.1 20 = .ok (.astore_n 2, 1) := by decide +kernel
theorem d_TK_variable_21 : decode m_TK_variable.2.1 21 = .ok (.aload_n 2, 1) := by decide +kernel
theorem d_TK_variable_22 : decode m_TK_variable.2.1 22 = .ok (.getfield 64, 3) := by decide +kernel
theorem d_TK_variable_25 : decode m_TK_variable.2.1 25 = .ok (.bipush 100, 2) := by decide +kernel
theorem d_TK_variable_27 : decode m_TK_variable.2.1 27 = .ok (.iload_n 1, 1) := by decide +kernel
theorem d_TK_variable_28 : decode m_TK_variable.2.1 28 = .ok (.iadd, 1) := by decide +kernel
theorem d_TK_variable_29 : decode m_TK_variable.2.1 29 = .ok (.invokevirtual 67, 3) := by decide +kernel
theorem d_TK_variable_32 : decode m_TK_variable.2.1 32 = .ok (.aload_n 2, 1) := by decide +kernel
theorem d_TK_variable_33 : decode m_TK_variable.2.1 33 = .ok (.getfield 71, 3) := by decide +kernel
theorem d_TK_variable_36 : decode m_TK_variable.2.1 36 = .ok (.invokevirtual 88, 3) := by decide +kernel
theorem d_TK_variable_39 : decode m_TK_variable.2.1 39 = .ok (.aload_n 0, 1) := by decide +kernel
theorem d_TK_variable_40 : decode m_TK_variable.2.1 40 = .ok (.getfield 41, 3) := by decide +kernel
theorem d_TK_variable_43 : decode m_TK_variable.2.1 43 = .ok (.aload_n 0, 1) := by decide +kernel
theorem d_TK_variable_44 : decode m_TK_variable.2.1 44 = .ok (.iload_n 1, 1) := by decide +kernel
theorem d_TK_variable_45 : decode m_TK_variable.2.1 45 = .ok (.invokevirtual 91, 3) := by decide +kernel
theorem d_TK_variable_48 : decode m_TK_variable.2.1 48 = .ok (.iconst 0, 1) := by decide +kernel
theorem d_TK_variable_49 : decode m_TK_variable.2.1 49 = .ok (.iload_n 1, 1) := by decide +kernel
theorem d_TK_variable_50 : decode m_TK_variable.2.1 50 = .ok (.iconst 1, 1) := by decide +kernel
theorem d_TK_variable_51 : decode m_TK_variable.2.1 51 = .ok (.iadd, 1) := by decide +kernel
theorem d_TK_variable_52 : decode m_TK_variable.2.1 52 = .ok (.aload_n 2, 1) := by decide +kernel
theorem d_TK_variable_53 : decode m_TK_variable.2.1 53 = .ok (.getfield 71, 3) := by decide +kernel
theorem d_TK_variable_56 : decode m_TK_variable.2.1 56 = .ok (.invokevirtual 95, 3) := by decide +kernel
theorem d_TK_variable_59 : decode m_TK_variable.2.1 59 = .ok (.return_, 1) := by decide +kernel
theorem d_TK_apply_0 : decode m_TK_apply.2.1 0 = .ok (.aload_n 0, 1) := by decide +kernel
theorem d_TK_apply_1 : decode m_TK_apply.2.1 1 = .ok (.iconst 0, 1) := by decide +kernel
theorem d_TK_apply_2 : decode m_TK_apply.2.1 2 = .ok (.invokevirtual 99, 3) := by decide +kernel
theorem d_TK_apply_5 : decode m_TK_apply.2.1 5 = .ok (.astore_n 1, 1) := by decide +kernel
theorem d_TK_apply_6 : decode m_TK_apply.2.1 6 = .ok (.aload_n 0, 1) := by decide +kernel
theorem d_TK_apply_7 : decode m_TK_apply.2.1 7 = .ok (.iconst 1, 1) := by decide +kernel
theorem d_TK_apply_8 : decode m_TK_apply.2.1 8 = .ok (.invokevirtual 99, 3) := by decide +kernel
theorem d_TK_apply_11 : decode m_TK_apply.2.1 11 = .ok (.astore_n 2, 1) := by decide +kernel
theorem d_TK_apply_12 : decode m_TK_apply.2.1 12 = .ok (.aload_n 0, 1) := by decide +kernel
theorem d_TK_apply_13 : decode m_TK_apply.2.1 13 = .ok (.getfield 41, 3) := by decide +kernel
theorem d_TK_apply_16 : decode m_TK_apply.2.1 16 = .ok (.aload_n 2, 1) := by decide +kernel
theorem d_TK_apply_17 : decode m_TK_apply.2.1 17 = .ok (.getfield 71, 3) := by decide +kernel
theorem d_TK_apply_20 : decode m_TK_apply.2.1 20 = .ok (.aload_n 0, 1) := by decide +kernel
theorem d_TK_apply_21 : decode m_TK_apply.2.1 21 = .ok (.getfield 46, 3) := by decide +kernel
theorem d_TK_apply_24 : decode m_TK_apply.2.1 24 = .ok (.invokevirtual 103, 3) := by decide +kernel
theorem d_TK_apply_27 : decode m_TK_apply.2.1 27 = .ok (.pop, 1) := by decide +kernel
theorem d_TK_apply_28 : decode m_TK_apply.2.1 28 = .ok (.aload_n 0, 1) := by decide +kernel
theorem d_TK_apply_29 : decode m_TK_apply.2.1 29 = .ok (.getfield 46, 3) := by decide +kernel
theorem d_TK_apply_32 : decode m_TK_apply.2.1 32 = .ok (.iconst 0, 1) := by decide +kernel
theorem d_TK_apply_33 : decode m_TK_apply.2.1 33 = .ok (.invokevirtual 107, 3) := by decide +kernel
theorem d_TK_apply_36 : decode m_TK_apply.2.1 36 = .ok (.iconst 4, 1) := by decide +kernel
theorem d_TK_apply_37 : decode m_TK_apply.2.1 37 = .ok (.if_icmp .eq 11, 3) := by decide +kernel
theorem d_TK_apply_40 : decode m_TK_apply.2.1 40 = .ok (.new 111, 3) := by decide +kernel
theorem d_TK_apply_43 : decode m_TK_apply.2.1 43 = .ok (.dup, 1) := by decide +kernel
theorem d_TK_apply_44 : decode m_TK_apply.2.1 44 = .ok (.invokespecial 113, 3) := by decide +kernel
theorem d_TK_apply_47 : decode m_TK_apply.2.1 47 = .ok (.athrow, 1) := by decide +kernel
theorem d_TK_apply_48 : decode m_TK_apply.2.1 48 = .ok (.aload_n 0, 1) := by decide +kernel
theorem d_TK_apply_49 : decode m_TK_apply.2.1 49 = .ok (.getfield 41, 3) := by decide +kernel
theorem d_TK_apply_52 : decode m_TK_apply.2.1 52 = .ok (.aload_n 1, 1) := by decide +kernel
theorem d_TK_apply_53 : decode m_TK_apply.2.1 53 = .ok (.getfield 71, 3) := by decide +kernel
theorem d_TK_apply_56 : decode m_TK_apply.2.1 56 = .ok (.aload_n 0, 1) := by decide +kernel
theorem d_TK_apply_57 : decode m_TK_apply.2.1 57 = .ok (.getfield 50, 3) := by decide +kernel
theorem d_TK_apply_60 : decode m_TK_apply.2.1 60 = .ok (.invokevirtual 103, 3) := by decide +kernel
theorem d_TK_apply_63 : decode m_TK_apply.2.1 63 = .ok (.pop, 1) := by decide +kernel
theorem d_TK_apply_64 : decode m_TK_apply.2.1 64 = .ok (.aload_n 0, 1) := by decide +kernel
theorem d_TK_apply_65 : decode m_TK_apply.2.1 65 = .ok (.getfield 46, 3) := by decide +kernel
theorem d_TK_apply_68 : decode m_TK_apply.2.1 68 = .ok (.iconst 1, 1) := by decide +kernel
theorem d_TK_apply_69 : decode m_TK_apply.2.1 69 = .ok (.invokevirtual 114, 3) := by decide +kernel
theorem d_TK_apply_72 : decode m_TK_apply.2.1 72 = .ok (.istore_n 3, 1) := by decide +kernel
theorem d_TK_apply_73 : decode m_TK_apply.2.1 73 = .ok (.aload_n 0, 1) := by decide +kernel
theorem d_TK_apply_74 : decode m_TK_apply.2.1 74 = .ok (.getfield 50, 3) := by decide +kernel
theorem d_TK_apply_77 : decode m_TK_apply.2.1 77 = .ok (.aload_n 0, 1) := by decide +kernel
theorem d_TK_apply_78 : decode m_TK_apply.2.1 78 = .ok (.getfield 46, 3) := by decide +kernel
theorem d_TK_apply_81 : decode m_TK_apply.2.1 81 = .ok (.iconst 1, 1) := by decide +kernel
theorem d_TK_apply_82 : decode m_TK_apply.2.1 82 = .ok (.iload_n 3, 1) := by decide +kernel
theorem d_TK_apply_83 : decode m_TK_apply.2.1 83 = .ok (.invokevirtual 117, 3) := by decide +kernel
theorem d_TK_apply_86 : decode m_TK_apply.2.1 86 = .ok (.ifCond .ne 11, 3) := by decide +kernel
theorem d_TK_apply_89 : decode m_TK_apply.2.1 89 = .ok (.new 111, 3) := by decide +kernel
theorem d_TK_apply_92 : decode m_TK_apply.2.1 92 = .ok (.dup, 1) := by decide +kernel
theorem d_TK_apply_93 : decode m_TK_apply.2.1 93 = .ok (.invokespecial 113, 3) := by decide +kernel
theorem d_TK_apply_96 : decode m_TK_apply.2.1 96 = .ok (.athrow, 1) := by decide +kernel
theorem d_TK_apply_97 : decode m_TK_apply.2.1 97 = .ok (.aload_n 0, 1) := by decide +kernel
theorem d_TK_apply_98 : decode m_TK_apply.2.1 98 = .ok (.getfield 53, 3) := by decide +kernel
theorem d_TK_apply_101 : decode m_TK_apply.2.1 101 = .ok (.iconst 2, 1) := by decide +kernel
theorem d_TK_apply_102 : decode m_TK_apply.2.1 102 = .ok (.aload_n 2, 1) := by decide +kernel
theorem d_TK_apply_103 : decode m_TK_apply.2.1 103 = .ok (.getfield 64, 3) := by decide +kernel
theorem d_TK_apply_106 : decode m_TK_apply.2.1 106 = .ok (.aload_n 1, 1) := by decide +kernel
theorem d_TK_apply_107 : decode m_TK_apply.2.1 107 = .ok (.getfield 64, 3) := by decide +kernel
theorem d_TK_apply_110 : decode m_TK_apply.2.1 110 = .ok (.invokevirtual 121, 3) := by decide +kernel
theorem d_TK_apply_113 : decode m_TK_apply.2.1 113 = .ok (.aload_n 0, 1) := by decide +kernel
theorem d_TK_apply_114 : decode m_TK_apply.2.1 114 = .ok (.getfield 56, 3) := by decide +kernel
theorem d_TK_apply_117 : decode m_TK_apply.2.1 117 = .ok (.invokevirtual 88, 3) := by decide +kernel
theorem d_TK_apply_120 : decode m_TK_apply.2.1 120 = .ok (.aload_n 0, 1) := by decide +kernel
theorem d_TK_apply_121 : decode m_TK_apply.2.1 121 = .ok (.getfield 41, 3) := by decide +kernel
theorem d_TK_apply_124 : decode m_TK_apply.2.1 124 = .ok (.aload_n 1, 1) := by decide +kernel
theorem d_TK_apply_125 : decode m_TK_apply.2.1 125 = .ok (.getfield 64, 3) := by decide +kernel
theorem d_TK_apply_128 : decode m_TK_apply.2.1 128 = .ok (.iconst 0, 1) := by decide +kernel
theorem d_TK_apply_129 : decode m_TK_apply.2.1 129 = .ok (.aload_n 0, 1) := by decide +kernel
theorem d_TK_apply_130 : decode m_TK_apply.2.1 130 = .ok (.getfield 46, 3) := by decide +kernel
theorem d_TK_apply_133 : decode m_TK_apply.2.1 133 = .ok (.iload_n 3, 1) := by decide +kernel
theorem d_TK_apply_134 : decode m_TK_apply.2.1 134 = .ok (.aload_n 0, 1) := by decide +kernel
theorem d_TK_apply_135 : decode m_TK_apply.2.1 135 = .ok (.getfield 56, 3) := by decide +kernel
theorem d_TK_apply_138 : decode m_TK_apply.2.1 138 = .ok (.invokevirtual 125, 3) := by decide +kernel
theorem d_TK_apply_141 : decode m_TK_apply.2.1 141 = .ok (.aload_n 2, 1) := by decide +kernel
theorem d_TK_apply_142 : decode m_TK_apply.2.1 142 = .ok (.getfield 64, 3) := by decide +kernel
theorem d_TK_apply_145 : decode m_TK_apply.2.1 145 = .ok (.aload_n 0, 1) := by decide +kernel
theorem d_TK_apply_146 : decode m_TK_apply.2.1 146 = .ok (.getfield 53, 3) := by decide +kernel
theorem d_TK_apply_149 : decode m_TK_apply.2.1 149 = .ok (.invokevirtual 81, 3) := by decide +kernel
theorem d_TK_apply_152 : decode m_TK_apply.2.1 152 = .ok (.aload_n 2, 1) := by decide +kernel
theorem d_TK_apply_153 : decode m_TK_apply.2.1 153 = .ok (.getfield 71, 3) := by decide +kernel
theorem d_TK_apply_156 : decode m_TK_apply.2.1 156 = .ok (.aload_n 0, 1) := by decide +kernel
theorem d_TK_apply_157 : decode m_TK_apply.2.1 157 = .ok (.getfield 56, 3) := by decide +kernel
theorem d_TK_apply_160 : decode m_TK_apply.2.1 160 = .ok (.invokevirtual 81, 3) := by decide +kernel
theorem d_TK_apply_163 : decode m_TK_apply.2.1 163 = .ok (.aload_n 0, 1) := by decide +kernel
theorem d_TK_apply_164 : decode m_TK_apply.2.1 164 = .ok (.dup, 1) := by decide +kernel
theorem d_TK_apply_165 : decode m_TK_apply.2.1 165 = .ok (.getfield 15, 3) := by decide +kernel
theorem d_TK_apply_168 : decode m_TK_apply.2.1 168 = .ok (.iconst 1, 1) := by decide +kernel
theorem d_TK_apply_169 : decode m_TK_apply.2.1 169 = .ok (.isub, 1) := by decide +kernel
theorem d_TK_apply_170 : decode m_TK_apply.2.1 170 = .ok (.putfield 15, 3) := by decide +kernel
theorem d_TK_apply_173 : decode m_TK_apply.2.1 173 = .ok (.return_, 1) := by decide +kernel
theorem d_TK_assume_0 : decode m_TK_assume.2.1 0 = .ok (.aload_n 0, 1) := by decide +kernel
theorem d_TK_assume_1 : decode m_TK_assume.2.1 1 = .ok (.iconst 0, 1) := by decide +kernel
theorem d_TK_assume_2 : decode m_TK_assume.2.1 2 = .ok (.invokevirtual 99, 3) := by decide +kernel
theorem d_TK_assume_5 : decode m_TK_assume.2.1 5 = .ok (.astore_n 1, 1) := by decide +kernel
theorem d_TK_assume_6 : decode m_TK_assume.2.1 6 = .ok (.aload_n 0, 1) := by decide +kernel
theorem d_TK_assume_7 : decode m_TK_assume.2.1 7 = .ok (.getfield 25, 3) := by decide +kernel
theorem d_TK_assume_10 : decode m_TK_assume.2.1 10 = .ok (.iconst 4, 1) := by decide +kernel
theorem d_TK_assume_11 : decode m_TK_assume.2.1 11 = .ok (.if_icmp .ne 11, 3) := by decide +kernel
theorem d_TK_assume_14 : decode m_TK_assume.2.1 14 = .ok (.new 129, 3) := by decide +kernel
theorem d_TK_assume_17 : decode m_TK_assume.2.1 17 = .ok (.dup, 1) := by decide +kernel
theorem d_TK_assume_18 : decode m_TK_assume.2.1 18 = .ok (.invokespecial 131, 3) := by decide +kernel
theorem d_TK_assume_21 : decode m_TK_assume.2.1 21 = .ok (.athrow, 1) := by decide +kernel
theorem d_TK_assume_22 : decode m_TK_assume.2.1 22 = .ok (.aload_n 1, 1) := by decide +kernel
theorem d_TK_assume_23 : decode m_TK_assume.2.1 23 = .ok (.getfield 71, 3) := by decide +kernel
theorem d_TK_assume_26 : decode m_TK_assume.2.1 26 = .ok (.iconst 0, 1) := by decide +kernel
theorem d_TK_assume_27 : decode m_TK_assume.2.1 27 = .ok (.invokevirtual 132, 3) := by decide +kernel
theorem d_TK_assume_30 : decode m_TK_assume.2.1 30 = .ok (.ifCond .ne 11, 3) := by decide +kernel
theorem d_TK_assume_33 : decode m_TK_assume.2.1 33 = .ok (.new 111, 3) := by decide +kernel
theorem d_TK_assume_36 : decode m_TK_assume.2.1 36 = .ok (.dup, 1) := by decide +kernel
theorem d_TK_assume_37 : decode m_TK_assume.2.1 37 = .ok (.invokespecial 113, 3) := by decide +kernel
theorem d_TK_assume_40 : decode m_TK_assume.2.1 40 = .ok (.athrow, 1) := by decide +kernel
theorem d_TK_assume_41 : decode m_TK_assume.2.1 41 = .ok (.aload_n 0, 1) := by decide +kernel
theorem d_TK_assume_42 : decode m_TK_assume.2.1 42 = .ok (.getfield 21, 3) := by decide +kernel
theorem d_TK_assume_45 : decode m_TK_assume.2.1 45 = .ok (.aload_n 0, 1) := by decide +kernel
theorem d_TK_assume_46 : decode m_TK_assume.2.1 46 = .ok (.getfield 25, 3) := by decide +kernel
theorem d_TK_assume_49 : decode m_TK_assume.2.1 49 = .ok (.aaload, 1) := by decide +kernel
theorem d_TK_assume_50 : decode m_TK_assume.2.1 50 = .ok (.aload_n 1, 1) := by decide +kernel
theorem d_TK_assume_51 : decode m_TK_assume.2.1 51 = .ok (.getfield 64, 3) := by decide +kernel
theorem d_TK_assume_54 : decode m_TK_assume.2.1 54 = .ok (.invokevirtual 81, 3) := by decide +kernel
theorem d_TK_assume_57 : decode m_TK_assume.2.1 57 = .ok (.aload_n 0, 1) := by decide +kernel
theorem d_TK_assume_58 : decode m_TK_assume.2.1 58 = .ok (.dup, 1) := by decide +kernel
theorem d_TK_assume_59 : decode m_TK_assume.2.1 59 = .ok (.getfield 25, 3) := by decide +kernel
theorem d_TK_assume_62 : decode m_TK_assume.2.1 62 = .ok (.iconst 1, 1) := by decide +kernel
theorem d_TK_assume_63 : decode m_TK_assume.2.1 63 = .ok (.iadd, 1) := by decide +kernel
theorem d_TK_assume_64 : decode m_TK_assume.2.1 64 = .ok (.putfield 25, 3) := by decide +kernel
theorem d_TK_assume_67 : decode m_TK_assume.2.1 67 = .ok (.aload_n 0, 1) := by decide +kernel
theorem d_TK_assume_68 : decode m_TK_assume.2.1 68 = .ok (.dup, 1) := by decide +kernel
theorem d_TK_assume_69 : decode m_TK_assume.2.1 69 = .ok (.getfield 15, 3) := by decide +kernel
theorem d_TK_assume_72 : decode m_TK_assume.2.1 72 = .ok (.iconst 1, 1) := by decide +kernel
theorem d_TK_assume_73 : decode m_TK_assume.2.1 73 = .ok (.isub, 1) := by decide +kernel
theorem d_TK_assume_74 : decode m_TK_assume.2.1 74 = .ok (.putfield 15, 3) := by decide +kernel
theorem d_TK_assume_77 : decode m_TK_assume.2.1 77 = .ok (.return_, 1) := by decide +kernel
theorem d_TK_lambda_0 : decode m_TK_lambda.2.1 0 = .ok (.aload_n 0, 1) := by decide +kernel
theorem d_TK_lambda_1 : decode m_TK_lambda.2.1 1 = .ok (.invokevirtual 135, 3) := by decide +kernel
theorem d_TK_lambda_4 : decode m_TK_lambda.2.1 4 = .ok (.astore_n 1, 1) := by decide +kernel
theorem d_TK_lambda_5 : decode m_TK_lambda.2.1 5 = .ok (.aload_n 1, 1) := by decide +kernel
theorem d_TK_lambda_6 : decode m_TK_lambda.2.1 6 = .ok (.getfield 71, 3) := by decide +kernel
theorem d_TK_lambda_9 : decode m_TK_lambda.2.1 9 = .ok (.iconst 1, 1) := by decide +kernel
theorem d_TK_lambda_10 : decode m_TK_lambda.2.1 10 = .ok (.invokevirtual 132, 3) := by decide +kernel
theorem d_TK_lambda_13 : decode m_TK_lambda.2.1 13 = .ok (.ifCond .eq 11, 3) := by decide +kernel
theorem d_TK_lambda_16 : decode m_TK_lambda.2.1 16 = .ok (.new 111, 3) := by decide +kernel
theorem d_TK_lambda_19 : decode m_TK_lambda.2.1 19 = .ok (.dup, 1) := by decide +kernel
theorem d_TK_lambda_20 : decode m_TK_lambda.2.1 20 = .ok (.invokespecial 113, 3) := by decide +kernel
theorem d_TK_lambda_23 : decode m_TK_lambda.2.1 23 = .ok (.athrow, 1) := by decide +kernel
theorem d_TK_lambda_24 : decode m_TK_lambda.2.1 24 = .ok (.aload_n 0, 1) := by decide +kernel
theorem d_TK_lambda_25 : decode m_TK_lambda.2.1 25 = .ok (.getfield 53, 3) := by decide +kernel
theorem d_TK_lambda_28 : decode m_TK_lambda.2.1 28 = .ok (.iconst 3, 1) := by decide +kernel
theorem d_TK_lambda_29 : decode m_TK_lambda.2.1 29 = .ok (.aload_n 0, 1) := by decide +kernel
theorem d_TK_lambda_30 : decode m_TK_lambda.2.1 30 = .ok (.iconst 0, 1) := by decide +kernel
theorem d_TK_lambda_31 : decode m_TK_lambda.2.1 31 = .ok (.invokevirtual 91, 3) := by decide +kernel
theorem d_TK_lambda_34 : decode m_TK_lambda.2.1 34 = .ok (.aload_n 1, 1) := by decide +kernel
theorem d_TK_lambda_35 : decode m_TK_lambda.2.1 35 = .ok (.getfield 64, 3) := by decide +kernel
theorem d_TK_lambda_38 : decode m_TK_lambda.2.1 38 = .ok (.invokevirtual 121, 3) := by decide +kernel
theorem d_TK_lambda_41 : decode m_TK_lambda.2.1 41 = .ok (.aload_n 0, 1) := by decide +kernel
theorem d_TK_lambda_42 : decode m_TK_lambda.2.1 42 = .ok (.getfield 56, 3) := by decide +kernel
theorem d_TK_lambda_45 : decode m_TK_lambda.2.1 45 = .ok (.iconst 4, 1) := by decide +kernel
theorem d_TK_lambda_46 : decode m_TK_lambda.2.1 46 = .ok (.aload_n 0, 1) := by decide +kernel
theorem d_TK_lambda_47 : decode m_TK_lambda.2.1 47 = .ok (.iconst 0, 1) := by decide +kernel
theorem d_TK_lambda_48 : decode m_TK_lambda.2.1 48 = .ok (.invokevirtual 91, 3) := by decide +kernel
theorem d_TK_lambda_51 : decode m_TK_lambda.2.1 51 = .ok (.aload_n 1, 1) := by decide +kernel
theorem d_TK_lambda_52 : decode m_TK_lambda.2.1 52 = .ok (.getfield 71, 3) := by decide +kernel
theorem d_TK_lambda_55 : decode m_TK_lambda.2.1 55 = .ok (.invokevirtual 121, 3) := by decide +kernel
theorem d_TK_lambda_58 : decode m_TK_lambda.2.1 58 = .ok (.aload_n 0, 1) := by decide +kernel
theorem d_TK_lambda_59 : decode m_TK_lambda.2.1 59 = .ok (.aload_n 1, 1) := by decide +kernel
theorem d_TK_lambda_60 : decode m_TK_lambda.2.1 60 = .ok (.invokevirtual 138, 3) := by decide +kernel
theorem d_TK_lambda_63 : decode m_TK_lambda.2.1 63 = .ok (.return_, 1) := by decide +kernel
theorem d_TK_product_0 : decode m_TK_product.2.1 0 = .ok (.aload_n 0, 1) := by decide +kernel
theorem d_TK_product_1 : decode m_TK_product.2.1 1 = .ok (.invokevirtual 135, 3) := by decide +kernel
theorem d_TK_product_4 : decode m_TK_product.2.1 4 = .ok (.astore_n 1, 1) := by decide +kernel
theorem d_TK_product_5 : decode m_TK_product.2.1 5 = .ok (.aload_n 1, 1) := by decide +kernel
theorem d_TK_product_6 : decode m_TK_product.2.1 6 = .ok (.invokestatic 142, 3) := by decide +kernel
theorem d_TK_product_9 : decode m_TK_product.2.1 9 = .ok (.ifCond .ne 11, 3) := by decide +kernel
theorem d_TK_product_12 : decode m_TK_product.2.1 12 = .ok (.new 111, 3) := by decide +kernel
theorem d_TK_product_15 : decode m_TK_product.2.1 15 = .ok (.dup, 1) := by decide +kernel
theorem d_TK_product_16 : decode m_TK_product.2.1 16 = .ok (.invokespecial 113, 3) := by decide +kernel
theorem d_TK_product_19 : decode m_TK_product.2.1 19 = .ok (.athrow, 1) := by decide +kernel
theorem d_TK_product_20 : decode m_TK_product.2.1 20 = .ok (.aload_n 0, 1) := by decide +kernel
theorem d_TK_product_21 : decode m_TK_product.2.1 21 = .ok (.getfield 53, 3) := by decide +kernel
theorem d_TK_product_24 : decode m_TK_product.2.1 24 = .ok (.iconst 4, 1) := by decide +kernel
theorem d_TK_product_25 : decode m_TK_product.2.1 25 = .ok (.aload_n 0, 1) := by decide +kernel
theorem d_TK_product_26 : decode m_TK_product.2.1 26 = .ok (.iconst 0, 1) := by decide +kernel
theorem d_TK_product_27 : decode m_TK_product.2.1 27 = .ok (.invokevirtual 91, 3) := by decide +kernel
theorem d_TK_product_30 : decode m_TK_product.2.1 30 = .ok (.aload_n 1, 1) := by decide +kernel
theorem d_TK_product_31 : decode m_TK_product.2.1 31 = .ok (.getfield 64, 3) := by decide +kernel
theorem d_TK_product_34 : decode m_TK_product.2.1 34 = .ok (.invokevirtual 121, 3) := by decide +kernel
theorem d_TK_product_37 : decode m_TK_product.2.1 37 = .ok (.aload_n 0, 1) := by decide +kernel
theorem d_TK_product_38 : decode m_TK_product.2.1 38 = .ok (.getfield 56, 3) := by decide +kernel
theorem d_TK_product_41 : decode m_TK_product.2.1 41 = .ok (.aload_n 1, 1) := by decide +kernel
theorem d_TK_product_42 : decode m_TK_product.2.1 42 = .ok (.getfield 71, 3) := by decide +kernel
theorem d_TK_product_45 : decode m_TK_product.2.1 45 = .ok (.invokevirtual 81, 3) := by decide +kernel
theorem d_TK_product_48 : decode m_TK_product.2.1 48 = .ok (.aload_n 0, 1) := by decide +kernel
theorem d_TK_product_49 : decode m_TK_product.2.1 49 = .ok (.aload_n 1, 1) := by decide +kernel
theorem d_TK_product_50 : decode m_TK_product.2.1 50 = .ok (.invokevirtual 138, 3) := by decide +kernel
theorem d_TK_product_53 : decode m_TK_product.2.1 53 = .ok (.return_, 1) := by decide +kernel
theorem d_TK_declare_0 : decode m_TK_declare.2.1 0 = .ok (.aload_n 0, 1) := by decide +kernel
theorem d_TK_declare_1 : decode m_TK_declare.2.1 1 = .ok (.getfield 25, 3) := by decide +kernel
theorem d_TK_declare_4 : decode m_TK_declare.2.1 4 = .ok (.ifCond .le 11, 3) := by decide +kernel
theorem d_TK_declare_7 : decode m_TK_declare.2.1 7 = .ok (.new 146, 3) := by decide +kernel
theorem d_TK_declare_10 : decode m_TK_declare.2.1 10 = .ok (.dup, 1) := by decide +kernel
theorem d_TK_declare_11 : decode m_TK_declare.2.1 11 = .ok (.invokespecial 148, 3) := by decide +kernel
theorem d_TK_declare_14 : decode m_TK_declare.2.1 14 = .ok (.athrow, 1) := by decide +kernel
theorem d_TK_declare_15 : decode m_TK_declare.2.1 15 = .ok (.aload_n 0, 1) := by decide +kernel
theorem d_TK_declare_16 : decode m_TK_declare.2.1 16 = .ok (.iconst 0, 1) := by decide +kernel
theorem d_TK_declare_17 : decode m_TK_declare.2.1 17 = .ok (.invokevirtual 99, 3) := by decide +kernel
theorem d_TK_declare_20 : decode m_TK_declare.2.1 20 = .ok (.astore_n 2, 1) := by decide +kernel
theorem d_TK_declare_21 : decode m_TK_declare.2.1 21 = .ok (.aload_n 0, 1) := by decide +kernel
theorem d_TK_declare_22 : decode m_TK_declare.2.1 22 = .ok (.getfield 35, 3) := by decide +kernel
theorem d_TK_declare_25 : decode m_TK_declare.2.1 25 = .ok (.bipush 8, 2) := by decide +kernel
theorem d_TK_declare_27 : decode m_TK_declare.2.1 27 = .ok (.if_icmp .ne 11, 3) := by decide +kernel
theorem d_TK_declare_30 : decode m_TK_declare.2.1 30 = .ok (.new 129, 3) := by decide +kernel
theorem d_TK_declare_33 : decode m_TK_declare.2.1 33 = .ok (.dup, 1) := by decide +kernel
theorem d_TK_declare_34 : decode m_TK_declare.2.1 34 = .ok (.invokespecial 131, 3) := by decide +kernel
theorem d_TK_declare_37 : decode m_TK_declare.2.1 37 = .ok (.athrow, 1) := by decide +kernel
theorem d_TK_declare_38 : decode m_TK_declare.2.1 38 = .ok (.aload_n 2, 1) := by decide +kernel
theorem d_TK_declare_39 : decode m_TK_declare.2.1 39 = .ok (.invokestatic 142, 3) := by decide +kernel
theorem d_TK_declare_42 : decode m_TK_declare.2.1 42 = .ok (.ifCond .ne 11, 3) := by decide +kernel
theorem d_TK_declare_45 : decode m_TK_declare.2.1 45 = .ok (.new 111, 3) := by decide +kernel
theorem d_TK_declare_48 : decode m_TK_declare.2.1 48 = .ok (.dup, 1) := by decide +kernel
theorem d_TK_declare_49 : decode m_TK_declare.2.1 49 = .ok (.invokespecial 113, 3) := by decide +kernel
theorem d_TK_declare_52 : decode m_TK_declare.2.1 52 = .ok (.athrow, 1) := by decide +kernel
theorem d_TK_declare_53 : decode m_TK_declare.2.1 53 = .ok (.aload_n 0, 1) := by decide +kernel
theorem d_TK_declare_54 : decode m_TK_declare.2.1 54 = .ok (.getfield 28, 3) := by decide +kernel
theorem d_TK_declare_57 : decode m_TK_declare.2.1 57 = .ok (.aload_n 0, 1) := by decide +kernel
theorem d_TK_declare_58 : decode m_TK_declare.2.1 58 = .ok (.getfield 35, 3) := by decide +kernel
theorem d_TK_declare_61 : decode m_TK_declare.2.1 61 = .ok (.aaload, 1) := by decide +kernel
theorem d_TK_declare_62 : decode m_TK_declare.2.1 62 = .ok (.aload_n 2, 1) := by decide +kernel
theorem d_TK_declare_63 : decode m_TK_declare.2.1 63 = .ok (.getfield 64, 3) := by decide +kernel
theorem d_TK_declare_66 : decode m_TK_declare.2.1 66 = .ok (.invokevirtual 81, 3) := by decide +kernel
theorem d_TK_declare_69 : decode m_TK_declare.2.1 69 = .ok (.aload_n 0, 1) := by decide +kernel
theorem d_TK_declare_70 : decode m_TK_declare.2.1 70 = .ok (.getfield 31, 3) := by decide +kernel
theorem d_TK_declare_73 : decode m_TK_declare.2.1 73 = .ok (.aload_n 0, 1) := by decide +kernel
theorem d_TK_declare_74 : decode m_TK_declare.2.1 74 = .ok (.getfield 35, 3) := by decide +kernel
theorem d_TK_declare_77 : decode m_TK_declare.2.1 77 = .ok (.iload_n 1, 1) := by decide +kernel
theorem d_TK_declare_78 : decode m_TK_declare.2.1 78 = .ok (.bastore, 1) := by decide +kernel
theorem d_TK_declare_79 : decode m_TK_declare.2.1 79 = .ok (.aload_n 0, 1) := by decide +kernel
theorem d_TK_declare_80 : decode m_TK_declare.2.1 80 = .ok (.dup, 1) := by decide +kernel
theorem d_TK_declare_81 : decode m_TK_declare.2.1 81 = .ok (.getfield 35, 3) := by decide +kernel
theorem d_TK_declare_84 : decode m_TK_declare.2.1 84 = .ok (.iconst 1, 1) := by decide +kernel
theorem d_TK_declare_85 : decode m_TK_declare.2.1 85 = .ok (.iadd, 1) := by decide +kernel
theorem d_TK_declare_86 : decode m_TK_declare.2.1 86 = .ok (.putfield 35, 3) := by decide +kernel
theorem d_TK_declare_89 : decode m_TK_declare.2.1 89 = .ok (.aload_n 0, 1) := by decide +kernel
theorem d_TK_declare_90 : decode m_TK_declare.2.1 90 = .ok (.dup, 1) := by decide +kernel
theorem d_TK_declare_91 : decode m_TK_declare.2.1 91 = .ok (.getfield 15, 3) := by decide +kernel
theorem d_TK_declare_94 : decode m_TK_declare.2.1 94 = .ok (.iconst 1, 1) := by decide +kernel
theorem d_TK_declare_95 : decode m_TK_declare.2.1 95 = .ok (.isub, 1) := by decide +kernel
theorem d_TK_declare_96 : decode m_TK_declare.2.1 96 = .ok (.putfield 15, 3) := by decide +kernel
theorem d_TK_declare_99 : decode m_TK_declare.2.1 99 = .ok (.aload_n 0, 1) := by decide +kernel
theorem d_TK_declare_100 : decode m_TK_declare.2.1 100 = .ok (.getfield 35, 3) := by decide +kernel
theorem d_TK_declare_103 : decode m_TK_declare.2.1 103 = .ok (.iconst 1, 1) := by decide +kernel
theorem d_TK_declare_104 : decode m_TK_declare.2.1 104 = .ok (.isub, 1) := by decide +kernel
theorem d_TK_declare_105 : decode m_TK_declare.2.1 105 = .ok (.ireturn, 1) := by decide +kernel
theorem d_TK_rule_0 : decode m_TK_rule.2.1 0 = .ok (.aload_n 0, 1) := by decide +kernel
theorem d_TK_rule_1 : decode m_TK_rule.2.1 1 = .ok (.iconst 0, 1) := by decide +kernel
theorem d_TK_rule_2 : decode m_TK_rule.2.1 2 = .ok (.invokevirtual 99, 3) := by decide +kernel
theorem d_TK_rule_5 : decode m_TK_rule.2.1 5 = .ok (.astore_n 1, 1) := by decide +kernel
theorem d_TK_rule_6 : decode m_TK_rule.2.1 6 = .ok (.aload_n 0, 1) := by decide +kernel
theorem d_TK_rule_7 : decode m_TK_rule.2.1 7 = .ok (.iconst 1, 1) := by decide +kernel
theorem d_TK_rule_8 : decode m_TK_rule.2.1 8 = .ok (.invokevirtual 99, 3) := by decide +kernel
theorem d_TK_rule_11 : decode m_TK_rule.2.1 11 = .ok (.astore_n 2, 1) := by decide +kernel
theorem d_TK_rule_12 : decode m_TK_rule.2.1 12 = .ok (.aload_n 0, 1) := by decide +kernel
theorem d_TK_rule_13 : decode m_TK_rule.2.1 13 = .ok (.getfield 15, 3) := by decide +kernel
theorem d_TK_rule_16 : decode m_TK_rule.2.1 16 = .ok (.iconst 2, 1) := by decide +kernel
theorem d_TK_rule_17 : decode m_TK_rule.2.1 17 = .ok (.if_icmp .le 11, 3) := by decide +kernel
theorem d_TK_rule_20 : decode m_TK_rule.2.1 20 = .ok (.new 146, 3) := by decide +kernel
theorem d_TK_rule_23 : decode m_TK_rule.2.1 23 = .ok (.dup, 1) := by decide +kernel
theorem d_TK_rule_24 : decode m_TK_rule.2.1 24 = .ok (.invokespecial 148, 3) := by decide +kernel
theorem d_TK_rule_27 : decode m_TK_rule.2.1 27 = .ok (.athrow, 1) := by decide +kernel
theorem d_TK_rule_28 : decode m_TK_rule.2.1 28 = .ok (.aload_n 0, 1) := by decide +kernel
theorem d_TK_rule_29 : decode m_TK_rule.2.1 29 = .ok (.getfield 41, 3) := by decide +kernel
theorem d_TK_rule_32 : decode m_TK_rule.2.1 32 = .ok (.getfield 149, 3) := by decide +kernel
theorem d_TK_rule_35 : decode m_TK_rule.2.1 35 = .ok (.bipush 8, 2) := by decide +kernel
theorem d_TK_rule_37 : decode m_TK_rule.2.1 37 = .ok (.if_icmp .ne 11, 3) := by decide +kernel
theorem d_TK_rule_40 : decode m_TK_rule.2.1 40 = .ok (.new 129, 3) := by decide +kernel
theorem d_TK_rule_43 : decode m_TK_rule.2.1 43 = .ok (.dup, 1) := by decide +kernel
theorem d_TK_rule_44 : decode m_TK_rule.2.1 44 = .ok (.invokespecial 131, 3) := by decide +kernel
theorem d_TK_rule_47 : decode m_TK_rule.2.1 47 = .ok (.athrow, 1) := by decide +kernel
theorem d_TK_rule_48 : decode m_TK_rule.2.1 48 = .ok (.aload_n 0, 1) := by decide +kernel
theorem d_TK_rule_49 : decode m_TK_rule.2.1 49 = .ok (.aload_n 2, 1) := by decide +kernel
theorem d_TK_rule_50 : decode m_TK_rule.2.1 50 = .ok (.getfield 64, 3) := by decide +kernel
theorem d_TK_rule_53 : decode m_TK_rule.2.1 53 = .ok (.invokevirtual 152, 3) := by decide +kernel
theorem d_TK_rule_56 : decode m_TK_rule.2.1 56 = .ok (.ifCond .ne 11, 3) := by decide +kernel
theorem d_TK_rule_59 : decode m_TK_rule.2.1 59 = .ok (.new 111, 3) := by decide +kernel
theorem d_TK_rule_62 : decode m_TK_rule.2.1 62 = .ok (.dup, 1) := by decide +kernel
theorem d_TK_rule_63 : decode m_TK_rule.2.1 63 = .ok (.invokespecial 113, 3) := by decide +kernel
theorem d_TK_rule_66 : decode m_TK_rule.2.1 66 = .ok (.athrow, 1) := by decide +kernel
theorem d_TK_rule_67 : decode m_TK_rule.2.1 67 = .ok (.aload_n 0, 1) := by decide +kernel
theorem d_TK_rule_68 : decode m_TK_rule.2.1 68 = .ok (.getfield 41, 3) := by decide +kernel
theorem d_TK_rule_71 : decode m_TK_rule.2.1 71 = .ok (.aload_n 2, 1) := by decide +kernel
theorem d_TK_rule_72 : decode m_TK_rule.2.1 72 = .ok (.getfield 71, 3) := by decide +kernel
theorem d_TK_rule_75 : decode m_TK_rule.2.1 75 = .ok (.aload_n 0, 1) := by decide +kernel
theorem d_TK_rule_76 : decode m_TK_rule.2.1 76 = .ok (.getfield 46, 3) := by decide +kernel
theorem d_TK_rule_79 : decode m_TK_rule.2.1 79 = .ok (.invokevirtual 103, 3) := by decide +kernel
theorem d_TK_rule_82 : decode m_TK_rule.2.1 82 = .ok (.pop, 1) := by decide +kernel
theorem d_TK_rule_83 : decode m_TK_rule.2.1 83 = .ok (.aload_n 0, 1) := by decide +kernel
theorem d_TK_rule_84 : decode m_TK_rule.2.1 84 = .ok (.getfield 41, 3) := by decide +kernel
theorem d_TK_rule_87 : decode m_TK_rule.2.1 87 = .ok (.aload_n 1, 1) := by decide +kernel
theorem d_TK_rule_88 : decode m_TK_rule.2.1 88 = .ok (.getfield 71, 3) := by decide +kernel
theorem d_TK_rule_91 : decode m_TK_rule.2.1 91 = .ok (.aload_n 0, 1) := by decide +kernel
theorem d_TK_rule_92 : decode m_TK_rule.2.1 92 = .ok (.getfield 50, 3) := by decide +kernel
theorem d_TK_rule_95 : decode m_TK_rule.2.1 95 = .ok (.invokevirtual 103, 3) := by decide +kernel
theorem d_TK_rule_98 : decode m_TK_rule.2.1 98 = .ok (.pop, 1) := by decide +kernel
theorem d_TK_rule_99 : decode m_TK_rule.2.1 99 = .ok (.aload_n 0, 1) := by decide +kernel
theorem d_TK_rule_100 : decode m_TK_rule.2.1 100 = .ok (.getfield 50, 3) := by decide +kernel
theorem d_TK_rule_103 : decode m_TK_rule.2.1 103 = .ok (.aload_n 0, 1) := by decide +kernel
theorem d_TK_rule_104 : decode m_TK_rule.2.1 104 = .ok (.getfield 46, 3) := by decide +kernel
theorem d_TK_rule_107 : decode m_TK_rule.2.1 107 = .ok (.invokevirtual 156, 3) := by decide +kernel
theorem d_TK_rule_110 : decode m_TK_rule.2.1 110 = .ok (.ifCond .ne 11, 3) := by decide +kernel
theorem d_TK_rule_113 : decode m_TK_rule.2.1 113 = .ok (.new 111, 3) := by decide +kernel
theorem d_TK_rule_116 : decode m_TK_rule.2.1 116 = .ok (.dup, 1) := by decide +kernel
theorem d_TK_rule_117 : decode m_TK_rule.2.1 117 = .ok (.invokespecial 113, 3) := by decide +kernel
theorem d_TK_rule_120 : decode m_TK_rule.2.1 120 = .ok (.athrow, 1) := by decide +kernel
theorem d_TK_rule_121 : decode m_TK_rule.2.1 121 = .ok (.aload_n 0, 1) := by decide +kernel
theorem d_TK_rule_122 : decode m_TK_rule.2.1 122 = .ok (.getfield 41, 3) := by decide +kernel
theorem d_TK_rule_125 : decode m_TK_rule.2.1 125 = .ok (.aload_n 2, 1) := by decide +kernel
theorem d_TK_rule_126 : decode m_TK_rule.2.1 126 = .ok (.getfield 64, 3) := by decide +kernel
theorem d_TK_rule_129 : decode m_TK_rule.2.1 129 = .ok (.aload_n 1, 1) := by decide +kernel
theorem d_TK_rule_130 : decode m_TK_rule.2.1 130 = .ok (.getfield 64, 3) := by decide +kernel
theorem d_TK_rule_133 : decode m_TK_rule.2.1 133 = .ok (.aload_n 0, 1) := by decide +kernel
theorem d_TK_rule_134 : decode m_TK_rule.2.1 134 = .ok (.getfield 25, 3) := by decide +kernel
theorem d_TK_rule_137 : decode m_TK_rule.2.1 137 = .ok (.invokevirtual 159, 3) := by decide +kernel
theorem d_TK_rule_140 : decode m_TK_rule.2.1 140 = .ok (.aload_n 0, 1) := by decide +kernel
theorem d_TK_rule_141 : decode m_TK_rule.2.1 141 = .ok (.iconst 0, 1) := by decide +kernel
theorem d_TK_rule_142 : decode m_TK_rule.2.1 142 = .ok (.putfield 15, 3) := by decide +kernel
theorem d_TK_rule_145 : decode m_TK_rule.2.1 145 = .ok (.aload_n 0, 1) := by decide +kernel
theorem d_TK_rule_146 : decode m_TK_rule.2.1 146 = .ok (.iconst 0, 1) := by decide +kernel
theorem d_TK_rule_147 : decode m_TK_rule.2.1 147 = .ok (.putfield 25, 3) := by decide +kernel
theorem d_TK_rule_150 : decode m_TK_rule.2.1 150 = .ok (.aload_n 0, 1) := by decide +kernel
theorem d_TK_rule_151 : decode m_TK_rule.2.1 151 = .ok (.getfield 41, 3) := by decide +kernel
theorem d_TK_rule_154 : decode m_TK_rule.2.1 154 = .ok (.getfield 149, 3) := by decide +kernel
theorem d_TK_rule_157 : decode m_TK_rule.2.1 157 = .ok (.iconst 1, 1) := by decide +kernel
theorem d_TK_rule_158 : decode m_TK_rule.2.1 158 = .ok (.isub, 1) := by decide +kernel
theorem d_TK_rule_159 : decode m_TK_rule.2.1 159 = .ok (.ireturn, 1) := by decide +kernel
theorem d_TK_normal_0 : decode m_TK_normal.2.1 0 = .ok (.aload_n 0, 1) := by decide +kernel
theorem d_TK_normal_1 : decode m_TK_normal.2.1 1 = .ok (.iconst 0, 1) := by decide +kernel
theorem d_TK_normal_2 : decode m_TK_normal.2.1 2 = .ok (.invokevirtual 163, 3) := by decide +kernel
theorem d_TK_normal_5 : decode m_TK_normal.2.1 5 = .ok (.astore_n 1, 1) := by decide +kernel
theorem d_TK_normal_6 : decode m_TK_normal.2.1 6 = .ok (.aload_n 0, 1) := by decide +kernel
theorem d_TK_normal_7 : decode m_TK_normal.2.1 7 = .ok (.getfield 41, 3) := by decide +kernel
theorem d_TK_normal_10 : decode m_TK_normal.2.1 10 = .ok (.aload_n 1, 1) := by decide +kernel
theorem d_TK_normal_11 : decode m_TK_normal.2.1 11 = .ok (.getfield 64, 3) := by decide +kernel
theorem d_TK_normal_14 : decode m_TK_normal.2.1 14 = .ok (.aload_n 0, 1) := by decide +kernel
theorem d_TK_normal_15 : decode m_TK_normal.2.1 15 = .ok (.getfield 53, 3) := by decide +kernel
theorem d_TK_normal_18 : decode m_TK_normal.2.1 18 = .ok (.invokevirtual 103, 3) := by decide +kernel
theorem d_TK_normal_21 : decode m_TK_normal.2.1 21 = .ok (.istore_n 2, 1) := by decide +kernel
theorem d_TK_normal_22 : decode m_TK_normal.2.1 22 = .ok (.aload_n 1, 1) := by decide +kernel
theorem d_TK_normal_23 : decode m_TK_normal.2.1 23 = .ok (.getfield 64, 3) := by decide +kernel
theorem d_TK_normal_26 : decode m_TK_normal.2.1 26 = .ok (.aload_n 0, 1) := by decide +kernel
theorem d_TK_normal_27 : decode m_TK_normal.2.1 27 = .ok (.getfield 53, 3) := by decide +kernel
theorem d_TK_normal_30 : decode m_TK_normal.2.1 30 = .ok (.invokevirtual 81, 3) := by decide +kernel
theorem d_TK_normal_33 : decode m_TK_normal.2.1 33 = .ok (.iload_n 2, 1) := by decide +kernel
theorem d_TK_normal_34 : decode m_TK_normal.2.1 34 = .ok (.ireturn, 1) := by decide +kernel
theorem d_TK_same_0 : decode m_TK_same.2.1 0 = .ok (.aload_n 0, 1) := by decide +kernel
theorem d_TK_same_1 : decode m_TK_same.2.1 1 = .ok (.iconst 0, 1) := by decide +kernel
theorem d_TK_same_2 : decode m_TK_same.2.1 2 = .ok (.invokevirtual 163, 3) := by decide +kernel
theorem d_TK_same_5 : decode m_TK_same.2.1 5 = .ok (.astore_n 1, 1) := by decide +kernel
theorem d_TK_same_6 : decode m_TK_same.2.1 6 = .ok (.aload_n 0, 1) := by decide +kernel
theorem d_TK_same_7 : decode m_TK_same.2.1 7 = .ok (.iconst 1, 1) := by decide +kernel
theorem d_TK_same_8 : decode m_TK_same.2.1 8 = .ok (.invokevirtual 163, 3) := by decide +kernel
theorem d_TK_same_11 : decode m_TK_same.2.1 11 = .ok (.astore_n 2, 1) := by decide +kernel
theorem d_TK_same_12 : decode m_TK_same.2.1 12 = .ok (.aload_n 1, 1) := by decide +kernel
theorem d_TK_same_13 : decode m_TK_same.2.1 13 = .ok (.getfield 166, 3) := by decide +kernel
theorem d_TK_same_16 : decode m_TK_same.2.1 16 = .ok (.aload_n 2, 1) := by decide +kernel
theorem d_TK_same_17 : decode m_TK_same.2.1 17 = .ok (.getfield 166, 3) := by decide +kernel
theorem d_TK_same_20 : decode m_TK_same.2.1 20 = .ok (.if_icmp .eq 11, 3) := by decide +kernel
theorem d_TK_same_23 : decode m_TK_same.2.1 23 = .ok (.new 146, 3) := by decide +kernel
theorem d_TK_same_26 : decode m_TK_same.2.1 26 = .ok (.dup, 1) := by decide +kernel
theorem d_TK_same_27 : decode m_TK_same.2.1 27 = .ok (.invokespecial 148, 3) := by decide +kernel
theorem d_TK_same_30 : decode m_TK_same.2.1 30 = .ok (.athrow, 1) := by decide +kernel
theorem d_TK_same_31 : decode m_TK_same.2.1 31 = .ok (.aload_n 0, 1) := by decide +kernel
theorem d_TK_same_32 : decode m_TK_same.2.1 32 = .ok (.getfield 41, 3) := by decide +kernel
theorem d_TK_same_35 : decode m_TK_same.2.1 35 = .ok (.aload_n 2, 1) := by decide +kernel
theorem d_TK_same_36 : decode m_TK_same.2.1 36 = .ok (.getfield 64, 3) := by decide +kernel
theorem d_TK_same_39 : decode m_TK_same.2.1 39 = .ok (.aload_n 0, 1) := by decide +kernel
theorem d_TK_same_40 : decode m_TK_same.2.1 40 = .ok (.getfield 46, 3) := by decide +kernel
theorem d_TK_same_43 : decode m_TK_same.2.1 43 = .ok (.invokevirtual 103, 3) := by decide +kernel
theorem d_TK_same_46 : decode m_TK_same.2.1 46 = .ok (.pop, 1) := by decide +kernel
theorem d_TK_same_47 : decode m_TK_same.2.1 47 = .ok (.aload_n 0, 1) := by decide +kernel
theorem d_TK_same_48 : decode m_TK_same.2.1 48 = .ok (.getfield 41, 3) := by decide +kernel
theorem d_TK_same_51 : decode m_TK_same.2.1 51 = .ok (.aload_n 1, 1) := by decide +kernel
theorem d_TK_same_52 : decode m_TK_same.2.1 52 = .ok (.getfield 64, 3) := by decide +kernel
theorem d_TK_same_55 : decode m_TK_same.2.1 55 = .ok (.aload_n 0, 1) := by decide +kernel
theorem d_TK_same_56 : decode m_TK_same.2.1 56 = .ok (.getfield 50, 3) := by decide +kernel
theorem d_TK_same_59 : decode m_TK_same.2.1 59 = .ok (.invokevirtual 103, 3) := by decide +kernel
theorem d_TK_same_62 : decode m_TK_same.2.1 62 = .ok (.pop, 1) := by decide +kernel
theorem d_TK_same_63 : decode m_TK_same.2.1 63 = .ok (.aload_n 0, 1) := by decide +kernel
theorem d_TK_same_64 : decode m_TK_same.2.1 64 = .ok (.getfield 50, 3) := by decide +kernel
theorem d_TK_same_67 : decode m_TK_same.2.1 67 = .ok (.aload_n 0, 1) := by decide +kernel
theorem d_TK_same_68 : decode m_TK_same.2.1 68 = .ok (.getfield 46, 3) := by decide +kernel
theorem d_TK_same_71 : decode m_TK_same.2.1 71 = .ok (.invokevirtual 156, 3) := by decide +kernel
theorem d_TK_same_74 : decode m_TK_same.2.1 74 = .ok (.ireturn, 1) := by decide +kernel
theorem d_TK_drop_0 : decode m_TK_drop.2.1 0 = .ok (.aload_n 0, 1) := by decide +kernel
theorem d_TK_drop_1 : decode m_TK_drop.2.1 1 = .ok (.getfield 15, 3) := by decide +kernel
theorem d_TK_drop_4 : decode m_TK_drop.2.1 4 = .ok (.ifCond .ne 5, 3) := by decide +kernel
theorem d_TK_drop_7 : decode m_TK_drop.2.1 7 = .ok (.iconst 0, 1) := by decide +kernel
theorem d_TK_drop_8 : decode m_TK_drop.2.1 8 = .ok (.ireturn, 1) := by decide +kernel
theorem d_TK_drop_9 : decode m_TK_drop.2.1 9 = .ok (.aload_n 0, 1) := by decide +kernel
theorem d_TK_drop_10 : decode m_TK_drop.2.1 10 = .ok (.dup, 1) := by decide +kernel
theorem d_TK_drop_11 : decode m_TK_drop.2.1 11 = .ok (.getfield 15, 3) := by decide +kernel
theorem d_TK_drop_14 : decode m_TK_drop.2.1 14 = .ok (.iconst 1, 1) := by decide +kernel
theorem d_TK_drop_15 : decode m_TK_drop.2.1 15 = .ok (.isub, 1) := by decide +kernel
theorem d_TK_drop_16 : decode m_TK_drop.2.1 16 = .ok (.putfield 15, 3) := by decide +kernel
theorem d_TK_drop_19 : decode m_TK_drop.2.1 19 = .ok (.iconst 1, 1) := by decide +kernel
theorem d_TK_drop_20 : decode m_TK_drop.2.1 20 = .ok (.ireturn, 1) := by decide +kernel
theorem d_TK_leave_0 : decode m_TK_leave.2.1 0 = .ok (.aload_n 0, 1) := by decide +kernel
theorem d_TK_leave_1 : decode m_TK_leave.2.1 1 = .ok (.getfield 25, 3) := by decide +kernel
theorem d_TK_leave_4 : decode m_TK_leave.2.1 4 = .ok (.ifCond .eq 10, 3) := by decide +kernel
theorem d_TK_leave_7 : decode m_TK_leave.2.1 7 = .ok (.aload_n 0, 1) := by decide +kernel
theorem d_TK_leave_8 : decode m_TK_leave.2.1 8 = .ok (.invokevirtual 169, 3) := by decide +kernel
theorem d_TK_leave_11 : decode m_TK_leave.2.1 11 = .ok (.ifCond .le 5, 3) := by decide +kernel
theorem d_TK_leave_14 : decode m_TK_leave.2.1 14 = .ok (.iconst 0, 1) := by decide +kernel
theorem d_TK_leave_15 : decode m_TK_leave.2.1 15 = .ok (.ireturn, 1) := by decide +kernel
theorem d_TK_leave_16 : decode m_TK_leave.2.1 16 = .ok (.aload_n 0, 1) := by decide +kernel
theorem d_TK_leave_17 : decode m_TK_leave.2.1 17 = .ok (.dup, 1) := by decide +kernel
theorem d_TK_leave_18 : decode m_TK_leave.2.1 18 = .ok (.getfield 25, 3) := by decide +kernel
theorem d_TK_leave_21 : decode m_TK_leave.2.1 21 = .ok (.iconst 1, 1) := by decide +kernel
theorem d_TK_leave_22 : decode m_TK_leave.2.1 22 = .ok (.isub, 1) := by decide +kernel
theorem d_TK_leave_23 : decode m_TK_leave.2.1 23 = .ok (.putfield 25, 3) := by decide +kernel
theorem d_TK_leave_26 : decode m_TK_leave.2.1 26 = .ok (.iconst 1, 1) := by decide +kernel
theorem d_TK_leave_27 : decode m_TK_leave.2.1 27 = .ok (.ireturn, 1) := by decide +kernel
theorem d_TK_counts_0 : decode m_TK_counts.2.1 0 = .ok (.aload_n 0, 1) := by decide +kernel
theorem d_TK_counts_1 : decode m_TK_counts.2.1 1 = .ok (.getfield 15, 3) := by decide +kernel
theorem d_TK_counts_4 : decode m_TK_counts.2.1 4 = .ok (.bipush 8, 2) := by decide +kernel
theorem d_TK_counts_6 : decode m_TK_counts.2.1 6 = .ok (.aload_n 0, 1) := by decide +kernel
theorem d_TK_counts_7 : decode m_TK_counts.2.1 7 = .ok (.getfield 25, 3) := by decide +kernel
theorem d_TK_counts_10 : decode m_TK_counts.2.1 10 = .ok (.imul, 1) := by decide +kernel
theorem d_TK_counts_11 : decode m_TK_counts.2.1 11 = .ok (.iadd, 1) := by decide +kernel
theorem d_TK_counts_12 : decode m_TK_counts.2.1 12 = .ok (.bipush 64, 2) := by decide +kernel
theorem d_TK_counts_14 : decode m_TK_counts.2.1 14 = .ok (.aload_n 0, 1) := by decide +kernel
theorem d_TK_counts_15 : decode m_TK_counts.2.1 15 = .ok (.getfield 35, 3) := by decide +kernel
theorem d_TK_counts_18 : decode m_TK_counts.2.1 18 = .ok (.imul, 1) := by decide +kernel
theorem d_TK_counts_19 : decode m_TK_counts.2.1 19 = .ok (.iadd, 1) := by decide +kernel
theorem d_TK_counts_20 : decode m_TK_counts.2.1 20 = .ok (.sipush 1024, 3) := by decide +kernel
theorem d_TK_counts_23 : decode m_TK_counts.2.1 23 = .ok (.aload_n 0, 1) := by decide +kernel
theorem d_TK_counts_24 : decode m_TK_counts.2.1 24 = .ok (.getfield 41, 3) := by decide +kernel
theorem d_TK_counts_27 : decode m_TK_counts.2.1 27 = .ok (.getfield 149, 3) := by decide +kernel
theorem d_TK_counts_30 : decode m_TK_counts.2.1 30 = .ok (.imul, 1) := by decide +kernel
theorem d_TK_counts_31 : decode m_TK_counts.2.1 31 = .ok (.iadd, 1) := by decide +kernel
theorem d_TK_counts_32 : decode m_TK_counts.2.1 32 = .ok (.ireturn, 1) := by decide +kernel
theorem d_TK_judgement_0 : decode m_TK_judgement.2.1 0 = .ok (.aload_n 0, 1) := by decide +kernel
theorem d_TK_judgement_1 : decode m_TK_judgement.2.1 1 = .ok (.iload_n 1, 1) := by decide +kernel
theorem d_TK_judgement_2 : decode m_TK_judgement.2.1 2 = .ok (.invokevirtual 173, 3) := by decide +kernel
theorem d_TK_judgement_5 : decode m_TK_judgement.2.1 5 = .ok (.ifCond .ne 5, 3) := by decide +kernel
theorem d_TK_judgement_8 : decode m_TK_judgement.2.1 8 = .ok (.iconst (-1), 1) := by decide +kernel
theorem d_TK_judgement_9 : decode m_TK_judgement.2.1 9 = .ok (.ireturn, 1) := by decide +kernel
theorem d_TK_judgement_10 : decode m_TK_judgement.2.1 10 = .ok (.aload_n 0, 1) := by decide +kernel
theorem d_TK_judgement_11 : decode m_TK_judgement.2.1 11 = .ok (.iload_n 1, 1) := by decide +kernel
theorem d_TK_judgement_12 : decode m_TK_judgement.2.1 12 = .ok (.invokevirtual 176, 3) := by decide +kernel
theorem d_TK_judgement_15 : decode m_TK_judgement.2.1 15 = .ok (.astore 4, 2) := by decide +kernel
theorem d_TK_judgement_17 : decode m_TK_judgement.2.1 17 = .ok (.iload_n 2, 1) := by decide +kernel
theorem d_TK_judgement_18 : decode m_TK_judgement.2.1 18 = .ok (.ifCond .eq 15, 3) := by decide +kernel
theorem d_TK_judgement_21 : decode m_TK_judgement.2.1 21 = .ok (.aload 4, 2) := by decide +kernel
theorem d_TK_judgement_23 : decode m_TK_judgement.2.1 23 = .ok (.getfield 71, 3) := by decide +kernel
theorem d_TK_judgement_26 : decode m_TK_judgement.2.1 26 = .ok (.iload_n 3, 1) := by decide +kernel
theorem d_TK_judgement_27 : decode m_TK_judgement.2.1 27 = .ok (.invokevirtual 107, 3) := by decide +kernel
theorem d_TK_judgement_30 : decode m_TK_judgement.2.1 30 = .ok (.goto 12, 3) := by decide +kernel
theorem d_TK_judgement_33 : decode m_TK_judgement.2.1 33 = .ok (.aload 4, 2) := by decide +kernel
theorem d_TK_judgement_35 : decode m_TK_judgement.2.1 35 = .ok (.getfield 64, 3) := by decide +kernel
theorem d_TK_judgement_38 : decode m_TK_judgement.2.1 38 = .ok (.iload_n 3, 1) := by decide +kernel
theorem d_TK_judgement_39 : decode m_TK_judgement.2.1 39 = .ok (.invokevirtual 107, 3) := by decide +kernel
theorem d_TK_judgement_42 : decode m_TK_judgement.2.1 42 = .ok (.ireturn, 1) := by decide +kernel
theorem d_TK_made_0 : decode m_TK_made.2.1 0 = .ok (.aload_n 0, 1) := by decide +kernel
theorem d_TK_made_1 : decode m_TK_made.2.1 1 = .ok (.iload_n 1, 1) := by decide +kernel
theorem d_TK_made_2 : decode m_TK_made.2.1 2 = .ok (.invokevirtual 173, 3) := by decide +kernel
theorem d_TK_made_5 : decode m_TK_made.2.1 5 = .ok (.ifCond .eq 14, 3) := by decide +kernel
theorem d_TK_made_8 : decode m_TK_made.2.1 8 = .ok (.aload_n 0, 1) := by decide +kernel
theorem d_TK_made_9 : decode m_TK_made.2.1 9 = .ok (.iload_n 1, 1) := by decide +kernel
theorem d_TK_made_10 : decode m_TK_made.2.1 10 = .ok (.invokevirtual 176, 3) := by decide +kernel
theorem d_TK_made_13 : decode m_TK_made.2.1 13 = .ok (.getfield 166, 3) := by decide +kernel
theorem d_TK_made_16 : decode m_TK_made.2.1 16 = .ok (.goto 4, 3) := by decide +kernel
theorem d_TK_made_19 : decode m_TK_made.2.1 19 = .ok (.iconst (-1), 1) := by decide +kernel
theorem d_TK_made_20 : decode m_TK_made.2.1 20 = .ok (.ireturn, 1) := by decide +kernel
theorem d_TK_entry_0 : decode m_TK_entry.2.1 0 = .ok (.aload_n 0, 1) := by decide +kernel
theorem d_TK_entry_1 : decode m_TK_entry.2.1 1 = .ok (.iload_n 1, 1) := by decide +kernel
theorem d_TK_entry_2 : decode m_TK_entry.2.1 2 = .ok (.invokevirtual 85, 3) := by decide +kernel
theorem d_TK_entry_5 : decode m_TK_entry.2.1 5 = .ok (.ifCond .eq 15, 3) := by decide +kernel
theorem d_TK_entry_8 : decode m_TK_entry.2.1 8 = .ok (.aload_n 0, 1) := by decide +kernel
theorem d_TK_entry_9 : decode m_TK_entry.2.1 9 = .ok (.iload_n 1, 1) := by decide +kernel
theorem d_TK_entry_10 : decode m_TK_entry.2.1 10 = .ok (.invokevirtual 91, 3) := by decide +kernel
theorem d_TK_entry_13 : decode m_TK_entry.2.1 13 = .ok (.iload_n 2, 1) := by decide +kernel
theorem d_TK_entry_14 : decode m_TK_entry.2.1 14 = .ok (.invokevirtual 107, 3) := by decide +kernel
theorem d_TK_entry_17 : decode m_TK_entry.2.1 17 = .ok (.goto 4, 3) := by decide +kernel
theorem d_TK_entry_20 : decode m_TK_entry.2.1 20 = .ok (.iconst (-1), 1) := by decide +kernel
theorem d_TK_entry_21 : decode m_TK_entry.2.1 21 = .ok (.ireturn, 1) := by decide +kernel
theorem d_TK_type_0 : decode m_TK_type.2.1 0 = .ok (.aload_n 0, 1) := by decide +kernel
theorem d_TK_type_1 : decode m_TK_type.2.1 1 = .ok (.iload_n 1, 1) := by decide +kernel
theorem d_TK_type_2 : decode m_TK_type.2.1 2 = .ok (.invokevirtual 74, 3) := by decide +kernel
theorem d_TK_type_5 : decode m_TK_type.2.1 5 = .ok (.ifCond .ne 5, 3) := by decide +kernel
theorem d_TK_type_8 : decode m_TK_type.2.1 8 = .ok (.iconst (-1), 1) := by decide +kernel
theorem d_TK_type_9 : decode m_TK_type.2.1 9 = .ok (.ireturn, 1) := by decide +kernel
theorem d_TK_type_10 : decode m_TK_type.2.1 10 = .ok (.iload_n 2, 1) := by decide +kernel
theorem d_TK_type_11 : decode m_TK_type.2.1 11 = .ok (.iconst (-1), 1) := by decide +kernel
theorem d_TK_type_12 : decode m_TK_type.2.1 12 = .ok (.if_icmp .ne 18, 3) := by decide +kernel
theorem d_TK_type_15 : decode m_TK_type.2.1 15 = .ok (.aload_n 0, 1) := by decide +kernel
theorem d_TK_type_16 : decode m_TK_type.2.1 16 = .ok (.getfield 31, 3) := by decide +kernel
theorem d_TK_type_19 : decode m_TK_type.2.1 19 = .ok (.iload_n 1, 1) := by decide +kernel
theorem d_TK_type_20 : decode m_TK_type.2.1 20 = .ok (.baload, 1) := by decide +kernel
theorem d_TK_type_21 : decode m_TK_type.2.1 21 = .ok (.ifCond .eq 7, 3) := by decide +kernel
theorem d_TK_type_24 : decode m_TK_type.2.1 24 = .ok (.iconst 1, 1) := by decide +kernel
theorem d_TK_type_25 : decode m_TK_type.2.1 25 = .ok (.goto 4, 3) := by decide +kernel
theorem d_TK_type_28 : decode m_TK_type.2.1 28 = .ok (.iconst 0, 1) := by decide +kernel
theorem d_TK_type_29 : decode m_TK_type.2.1 29 = .ok (.ireturn, 1) := by decide +kernel
theorem d_TK_type_30 : decode m_TK_type.2.1 30 = .ok (.aload_n 0, 1) := by decide +kernel
theorem d_TK_type_31 : decode m_TK_type.2.1 31 = .ok (.getfield 28, 3) := by decide +kernel
theorem d_TK_type_34 : decode m_TK_type.2.1 34 = .ok (.iload_n 1, 1) := by decide +kernel
theorem d_TK_type_35 : decode m_TK_type.2.1 35 = .ok (.aaload, 1) := by decide +kernel
theorem d_TK_type_36 : decode m_TK_type.2.1 36 = .ok (.iload_n 2, 1) := by decide +kernel
theorem d_TK_type_37 : decode m_TK_type.2.1 37 = .ok (.invokevirtual 107, 3) := by decide +kernel
theorem d_TK_type_40 : decode m_TK_type.2.1 40 = .ok (.ireturn, 1) := by decide +kernel
theorem d_TK_side_0 : decode m_TK_side.2.1 0 = .ok (.iload_n 1, 1) := by decide +kernel
theorem d_TK_side_1 : decode m_TK_side.2.1 1 = .ok (.ifCond .lt 14, 3) := by decide +kernel
theorem d_TK_side_4 : decode m_TK_side.2.1 4 = .ok (.iload_n 1, 1) := by decide +kernel
theorem d_TK_side_5 : decode m_TK_side.2.1 5 = .ok (.aload_n 0, 1) := by decide +kernel
theorem d_TK_side_6 : decode m_TK_side.2.1 6 = .ok (.getfield 41, 3) := by decide +kernel
theorem d_TK_side_9 : decode m_TK_side.2.1 9 = .ok (.getfield 149, 3) := by decide +kernel
theorem d_TK_side_12 : decode m_TK_side.2.1 12 = .ok (.if_icmp .lt 5, 3) := by decide +kernel
theorem d_TK_side_15 : decode m_TK_side.2.1 15 = .ok (.iconst (-1), 1) := by decide +kernel
theorem d_TK_side_16 : decode m_TK_side.2.1 16 = .ok (.ireturn, 1) := by decide +kernel
theorem d_TK_side_17 : decode m_TK_side.2.1 17 = .ok (.aload_n 0, 1) := by decide +kernel
theorem d_TK_side_18 : decode m_TK_side.2.1 18 = .ok (.getfield 41, 3) := by decide +kernel
theorem d_TK_side_21 : decode m_TK_side.2.1 21 = .ok (.getfield 179, 3) := by decide +kernel
theorem d_TK_side_24 : decode m_TK_side.2.1 24 = .ok (.iload_n 1, 1) := by decide +kernel
theorem d_TK_side_25 : decode m_TK_side.2.1 25 = .ok (.aaload, 1) := by decide +kernel
theorem d_TK_side_26 : decode m_TK_side.2.1 26 = .ok (.astore 4, 2) := by decide +kernel
theorem d_TK_side_28 : decode m_TK_side.2.1 28 = .ok (.iload_n 3, 1) := by decide +kernel
theorem d_TK_side_29 : decode m_TK_side.2.1 29 = .ok (.iconst (-1), 1) := by decide +kernel
theorem d_TK_side_30 : decode m_TK_side.2.1 30 = .ok (.if_icmp .ne 9, 3) := by decide +kernel
theorem d_TK_side_33 : decode m_TK_side.2.1 33 = .ok (.aload 4, 2) := by decide +kernel
theorem d_TK_side_35 : decode m_TK_side.2.1 35 = .ok (.getfield 183, 3) := by decide +kernel
theorem d_TK_side_38 : decode m_TK_side.2.1 38 = .ok (.ireturn, 1) := by decide +kernel
theorem d_TK_side_39 : decode m_TK_side.2.1 39 = .ok (.iload_n 2, 1) := by decide +kernel
theorem d_TK_side_40 : decode m_TK_side.2.1 40 = .ok (.ifCond .eq 15, 3) := by decide +kernel
theorem d_TK_side_43 : decode m_TK_side.2.1 43 = .ok (.aload 4, 2) := by decide +kernel
theorem d_TK_side_45 : decode m_TK_side.2.1 45 = .ok (.getfield 188, 3) := by decide +kernel
theorem d_TK_side_48 : decode m_TK_side.2.1 48 = .ok (.iload_n 3, 1) := by decide +kernel
theorem d_TK_side_49 : decode m_TK_side.2.1 49 = .ok (.invokevirtual 107, 3) := by decide +kernel
theorem d_TK_side_52 : decode m_TK_side.2.1 52 = .ok (.goto 12, 3) := by decide +kernel
theorem d_TK_side_55 : decode m_TK_side.2.1 55 = .ok (.aload 4, 2) := by decide +kernel
theorem d_TK_side_57 : decode m_TK_side.2.1 57 = .ok (.getfield 191, 3) := by decide +kernel
theorem d_TK_side_60 : decode m_TK_side.2.1 60 = .ok (.iload_n 3, 1) := by decide +kernel
theorem d_TK_side_61 : decode m_TK_side.2.1 61 = .ok (.invokevirtual 107, 3) := by decide +kernel
theorem d_TK_side_64 : decode m_TK_side.2.1 64 = .ok (.ireturn, 1) := by decide +kernel
theorem d_TK_isConstant_0 : decode m_TK_isConstant.2.1 0 = .ok (.iload_n 1, 1) := by decide +kernel
theorem d_TK_isConstant_1 : decode m_TK_isConstant.2.1 1 = .ok (.ifCond .lt 15, 3) := by decide +kernel
theorem d_TK_isConstant_4 : decode m_TK_isConstant.2.1 4 = .ok (.iload_n 1, 1) := by decide +kernel
theorem d_TK_isConstant_5 : decode m_TK_isConstant.2.1 5 = .ok (.aload_n 0, 1) := by decide +kernel
theorem d_TK_isConstant_6 : decode m_TK_isConstant.2.1 6 = .ok (.getfield 35, 3) := by decide +kernel
theorem d_TK_isConstant_9 : decode m_TK_isConstant.2.1 9 = .ok (.if_icmp .ge 7, 3) := by decide +kernel
theorem d_TK_isConstant_12 : decode m_TK_isConstant.2.1 12 = .ok (.iconst 1, 1) := by decide +kernel
theorem d_TK_isConstant_13 : decode m_TK_isConstant.2.1 13 = .ok (.goto 4, 3) := by decide +kernel
theorem d_TK_isConstant_16 : decode m_TK_isConstant.2.1 16 = .ok (.iconst 0, 1) := by decide +kernel
theorem d_TK_isConstant_17 : decode m_TK_isConstant.2.1 17 = .ok (.ireturn, 1) := by decide +kernel
theorem d_TK_isEntry_0 : decode m_TK_isEntry.2.1 0 = .ok (.iload_n 1, 1) := by decide +kernel
theorem d_TK_isEntry_1 : decode m_TK_isEntry.2.1 1 = .ok (.ifCond .lt 15, 3) := by decide +kernel
theorem d_TK_isEntry_4 : decode m_TK_isEntry.2.1 4 = .ok (.iload_n 1, 1) := by decide +kernel
theorem d_TK_isEntry_5 : decode m_TK_isEntry.2.1 5 = .ok (.aload_n 0, 1) := by decide +kernel
theorem d_TK_isEntry_6 : decode m_TK_isEntry.2.1 6 = .ok (.getfield 25, 3) := by decide +kernel
theorem d_TK_isEntry_9 : decode m_TK_isEntry.2.1 9 = .ok (.if_icmp .ge 7, 3) := by decide +kernel
theorem d_TK_isEntry_12 : decode m_TK_isEntry.2.1 12 = .ok (.iconst 1, 1) := by decide +kernel
theorem d_TK_isEntry_13 : decode m_TK_isEntry.2.1 13 = .ok (.goto 4, 3) := by decide +kernel
theorem d_TK_isEntry_16 : decode m_TK_isEntry.2.1 16 = .ok (.iconst 0, 1) := by decide +kernel
theorem d_TK_isEntry_17 : decode m_TK_isEntry.2.1 17 = .ok (.ireturn, 1) := by decide +kernel
theorem d_TK_isJudgement_0 : decode m_TK_isJudgement.2.1 0 = .ok (.iload_n 1, 1) := by decide +kernel
theorem d_TK_isJudgement_1 : decode m_TK_isJudgement.2.1 1 = .ok (.ifCond .lt 15, 3) := by decide +kernel
theorem d_TK_isJudgement_4 : decode m_TK_isJudgement.2.1 4 = .ok (.iload_n 1, 1) := by decide +kernel
theorem d_TK_isJudgement_5 : decode m_TK_isJudgement.2.1 5 = .ok (.aload_n 0, 1) := by decide +kernel
theorem d_TK_isJudgement_6 : decode m_TK_isJudgement.2.1 6 = .ok (.getfield 15, 3) := by decide +kernel
theorem d_TK_isJudgement_9 : decode m_TK_isJudgement.2.1 9 = .ok (.if_icmp .ge 7, 3) := by decide +kernel
theorem d_TK_isJudgement_12 : decode m_TK_isJudgement.2.1 12 = .ok (.iconst 1, 1) := by decide +kernel
theorem d_TK_isJudgement_13 : decode m_TK_isJudgement.2.1 13 = .ok (.goto 4, 3) := by decide +kernel
theorem d_TK_isJudgement_16 : decode m_TK_isJudgement.2.1 16 = .ok (.iconst 0, 1) := by decide +kernel
theorem d_TK_isJudgement_17 : decode m_TK_isJudgement.2.1 17 = .ok (.ireturn, 1) := by decide +kernel
theorem d_TK_entryAt_0 : decode m_TK_entryAt.2.1 0 = .ok (.aload_n 0, 1) := by decide +kernel
theorem d_TK_entryAt_1 : decode m_TK_entryAt.2.1 1 = .ok (.getfield 21, 3) := by decide +kernel
theorem d_TK_entryAt_4 : decode m_TK_entryAt.2.1 4 = .ok (.aload_n 0, 1) := by decide +kernel
theorem d_TK_entryAt_5 : decode m_TK_entryAt.2.1 5 = .ok (.getfield 25, 3) := by decide +kernel
theorem d_TK_entryAt_8 : decode m_TK_entryAt.2.1 8 = .ok (.iconst 1, 1) := by decide +kernel
theorem d_TK_entryAt_9 : decode m_TK_entryAt.2.1 9 = .ok (.isub, 1) := by decide +kernel
theorem d_TK_entryAt_10 : decode m_TK_entryAt.2.1 10 = .ok (.iload_n 1, 1) := by decide +kernel
theorem d_TK_entryAt_11 : decode m_TK_entryAt.2.1 11 = .ok (.isub, 1) := by decide +kernel
theorem d_TK_entryAt_12 : decode m_TK_entryAt.2.1 12 = .ok (.aaload, 1) := by decide +kernel
theorem d_TK_entryAt_13 : decode m_TK_entryAt.2.1 13 = .ok (.areturn, 1) := by decide +kernel
theorem d_TK_judgementAt_0 : decode m_TK_judgementAt.2.1 0 = .ok (.aload_n 0, 1) := by decide +kernel
theorem d_TK_judgementAt_1 : decode m_TK_judgementAt.2.1 1 = .ok (.getfield 11, 3) := by decide +kernel
theorem d_TK_judgementAt_4 : decode m_TK_judgementAt.2.1 4 = .ok (.aload_n 0, 1) := by decide +kernel
theorem d_TK_judgementAt_5 : decode m_TK_judgementAt.2.1 5 = .ok (.getfield 15, 3) := by decide +kernel
theorem d_TK_judgementAt_8 : decode m_TK_judgementAt.2.1 8 = .ok (.iconst 1, 1) := by decide +kernel
theorem d_TK_judgementAt_9 : decode m_TK_judgementAt.2.1 9 = .ok (.isub, 1) := by decide +kernel
theorem d_TK_judgementAt_10 : decode m_TK_judgementAt.2.1 10 = .ok (.iload_n 1, 1) := by decide +kernel
theorem d_TK_judgementAt_11 : decode m_TK_judgementAt.2.1 11 = .ok (.isub, 1) := by decide +kernel
theorem d_TK_judgementAt_12 : decode m_TK_judgementAt.2.1 12 = .ok (.aaload, 1) := by decide +kernel
theorem d_TK_judgementAt_13 : decode m_TK_judgementAt.2.1 13 = .ok (.areturn, 1) := by decide +kernel
theorem d_TK_addJudgement_0 : decode m_TK_addJudgement.2.1 0 = .ok (.aload_n 0, 1) := by decide +kernel
theorem d_TK_addJudgement_1 : decode m_TK_addJudgement.2.1 1 = .ok (.getfield 15, 3) := by decide +kernel
theorem d_TK_addJudgement_4 : decode m_TK_addJudgement.2.1 4 = .ok (.bipush 6, 2) := by decide +kernel
theorem d_TK_addJudgement_6 : decode m_TK_addJudgement.2.1 6 = .ok (.if_icmp .ne 11, 3) := by decide +kernel
theorem d_TK_addJudgement_9 : decode m_TK_addJudgement.2.1 9 = .ok (.new 129, 3) := by decide +kernel
theorem d_TK_addJudgement_12 : decode m_TK_addJudgement.2.1 12 = .ok (.dup, 1) := by decide +kernel
theorem d_TK_addJudgement_13 : decode m_TK_addJudgement.2.1 13 = .ok (.invokespecial 131, 3) := by decide +kernel
theorem d_TK_addJudgement_16 : decode m_TK_addJudgement.2.1 16 = .ok (.athrow, 1) := by decide +kernel
theorem d_TK_addJudgement_17 : decode m_TK_addJudgement.2.1 17 = .ok (.aload_n 0, 1) := by decide +kernel
theorem d_TK_addJudgement_18 : decode m_TK_addJudgement.2.1 18 = .ok (.dup, 1) := by decide +kernel
theorem d_TK_addJudgement_19 : decode m_TK_addJudgement.2.1 19 = .ok (.getfield 15, 3) := by decide +kernel
theorem d_TK_addJudgement_22 : decode m_TK_addJudgement.2.1 22 = .ok (.iconst 1, 1) := by decide +kernel
theorem d_TK_addJudgement_23 : decode m_TK_addJudgement.2.1 23 = .ok (.iadd, 1) := by decide +kernel
theorem d_TK_addJudgement_24 : decode m_TK_addJudgement.2.1 24 = .ok (.putfield 15, 3) := by decide +kernel
theorem d_TK_addJudgement_27 : decode m_TK_addJudgement.2.1 27 = .ok (.aload_n 0, 1) := by decide +kernel
theorem d_TK_addJudgement_28 : decode m_TK_addJudgement.2.1 28 = .ok (.iconst 0, 1) := by decide +kernel
theorem d_TK_addJudgement_29 : decode m_TK_addJudgement.2.1 29 = .ok (.invokevirtual 176, 3) := by decide +kernel
theorem d_TK_addJudgement_32 : decode m_TK_addJudgement.2.1 32 = .ok (.astore_n 1, 1) := by decide +kernel
theorem d_TK_addJudgement_33 : decode m_TK_addJudgement.2.1 33 = .ok (.aload_n 1, 1) := by decide +kernel
theorem d_TK_addJudgement_34 : decode m_TK_addJudgement.2.1 34 = .ok (.aload_n 0, 1) := by decide +kernel
theorem d_TK_addJudgement_35 : decode m_TK_addJudgement.2.1 35 = .ok (.getfield 25, 3) := by decide +kernel
theorem d_TK_addJudgement_38 : decode m_TK_addJudgement.2.1 38 = .ok (.putfield 166, 3) := by decide +kernel
theorem d_TK_addJudgement_41 : decode m_TK_addJudgement.2.1 41 = .ok (.aload_n 1, 1) := by decide +kernel
theorem d_TK_addJudgement_42 : decode m_TK_addJudgement.2.1 42 = .ok (.areturn, 1) := by decide +kernel
theorem d_TK_neededJudgement_0 : decode m_TK_neededJudgement.2.1 0 = .ok (.aload_n 0, 1) := by decide +kernel
theorem d_TK_neededJudgement_1 : decode m_TK_neededJudgement.2.1 1 = .ok (.iload_n 1, 1) := by decide +kernel
theorem d_TK_neededJudgement_2 : decode m_TK_neededJudgement.2.1 2 = .ok (.invokevirtual 173, 3) := by decide +kernel
theorem d_TK_neededJudgement_5 : decode m_TK_neededJudgement.2.1 5 = .ok (.ifCond .ne 11, 3) := by decide +kernel
theorem d_TK_neededJudgement_8 : decode m_TK_neededJudgement.2.1 8 = .ok (.new 146, 3) := by decide +kernel
theorem d_TK_neededJudgement_11 : decode m_TK_neededJudgement.2.1 11 = .ok (.dup, 1) := by decide +kernel
theorem d_TK_neededJudgement_12 : decode m_TK_neededJudgement.2.1 12 = .ok (.invokespecial 148, 3) := by decide +kernel
theorem d_TK_neededJudgement_15 : decode m_TK_neededJudgement.2.1 15 = .ok (.athrow, 1) := by decide +kernel
theorem d_TK_neededJudgement_16 : decode m_TK_neededJudgement.2.1 16 = .ok (.aload_n 0, 1) := by decide +kernel
theorem d_TK_neededJudgement_17 : decode m_TK_neededJudgement.2.1 17 = .ok (.iload_n 1, 1) := by decide +kernel
theorem d_TK_neededJudgement_18 : decode m_TK_neededJudgement.2.1 18 = .ok (.invokevirtual 176, 3) := by decide +kernel
theorem d_TK_neededJudgement_21 : decode m_TK_neededJudgement.2.1 21 = .ok (.areturn, 1) := by decide +kernel
theorem d_TK_presentJudgement_0 : decode m_TK_presentJudgement.2.1 0 = .ok (.aload_n 0, 1) := by decide +kernel
theorem d_TK_presentJudgement_1 : decode m_TK_presentJudgement.2.1 1 = .ok (.iload_n 1, 1) := by decide +kernel
theorem d_TK_presentJudgement_2 : decode m_TK_presentJudgement.2.1 2 = .ok (.invokevirtual 163, 3) := by decide +kernel
theorem d_TK_presentJudgement_5 : decode m_TK_presentJudgement.2.1 5 = .ok (.astore_n 2, 1) := by decide +kernel
theorem d_TK_presentJudgement_6 : decode m_TK_presentJudgement.2.1 6 = .ok (.aload_n 2, 1) := by decide +kernel
theorem d_TK_presentJudgement_7 : decode m_TK_presentJudgement.2.1 7 = .ok (.getfield 166, 3) := by decide +kernel
theorem d_TK_presentJudgement_10 : decode m_TK_presentJudgement.2.1 10 = .ok (.aload_n 0, 1) := by decide +kernel
theorem d_TK_presentJudgement_11 : decode m_TK_presentJudgement.2.1 11 = .ok (.getfield 25, 3) := by decide +kernel
theorem d_TK_presentJudgement_14 : decode m_TK_presentJudgement.2.1 14 = .ok (.if_icmp .eq 11, 3) := by decide +kernel
theorem d_TK_presentJudgement_17 : decode m_TK_presentJudgement.2.1 17 = .ok (.new 146, 3) := by decide +kernel
theorem d_TK_presentJudgement_20 : decode m_TK_presentJudgement.2.1 20 = .ok (.dup, 1) := by decide +kernel
theorem d_TK_presentJudgement_21 : decode m_TK_presentJudgement.2.1 21 = .ok (.invokespecial 148, 3) := by decide +kernel
theorem d_TK_presentJudgement_24 : decode m_TK_presentJudgement.2.1 24 = .ok (.athrow, 1) := by decide +kernel
theorem d_TK_presentJudgement_25 : decode m_TK_presentJudgement.2.1 25 = .ok (.aload_n 2, 1) := by decide +kernel
theorem d_TK_presentJudgement_26 : decode m_TK_presentJudgement.2.1 26 = .ok (.areturn, 1) := by decide +kernel
theorem d_TK_onlyPresentJudgement_0 : decode m_TK_onlyPresentJudgement.2.1 0 = .ok (.aload_n 0, 1) := by decide +kernel
theorem d_TK_onlyPresentJudgement_1 : decode m_TK_onlyPresentJudgement.2.1 1 = .ok (.iconst 0, 1) := by decide +kernel
theorem d_TK_onlyPresentJudgement_2 : decode m_TK_onlyPresentJudgement.2.1 2 = .ok (.invokevirtual 99, 3) := by decide +kernel
theorem d_TK_onlyPresentJudgement_5 : decode m_TK_onlyPresentJudgement.2.1 5 = .ok (.astore_n 1, 1) := by decide +kernel
theorem d_TK_onlyPresentJudgement_6 : decode m_TK_onlyPresentJudgement.2.1 6 = .ok (.aload_n 0, 1) := by decide +kernel
theorem d_TK_onlyPresentJudgement_7 : decode m_TK_onlyPresentJudgement.2.1 7 = .ok (.getfield 25, 3) := by decide +kernel
theorem d_TK_onlyPresentJudgement_10 : decode m_TK_onlyPresentJudgement.2.1 10 = .ok (.ifCond .eq 11, 3) := by decide +kernel
theorem d_TK_onlyPresentJudgement_13 : decode m_TK_onlyPresentJudgement.2.1 13 = .ok (.aload_n 0, 1) := by decide +kernel
theorem d_TK_onlyPresentJudgement_14 : decode m_TK_onlyPresentJudgement.2.1 14 = .ok (.invokevirtual 169, 3) := by decide +kernel
theorem d_TK_onlyPresentJudgement_17 : decode m_TK_onlyPresentJudgement.2.1 17 = .ok (.iconst 1, 1) := by decide +kernel
theorem d_TK_onlyPresentJudgement_18 : decode m_TK_onlyPresentJudgement.2.1 18 = .ok (.if_icmp .le 11, 3) := by decide +kernel
theorem d_TK_onlyPresentJudgement_21 : decode m_TK_onlyPresentJudgement.2.1 21 = .ok (.new 146, 3) := by decide +kernel
theorem d_TK_onlyPresentJudgement_24 : decode m_TK_onlyPresentJudgement.2.1 24 = .ok (.dup, 1) := by decide +kernel
theorem d_TK_onlyPresentJudgement_25 : decode m_TK_onlyPresentJudgement.2.1 25 = .ok (.invokespecial 148, 3) := by decide +kernel
theorem d_TK_onlyPresentJudgement_28 : decode m_TK_onlyPresentJudgement.2.1 28 = .ok (.athrow, 1) := by decide +kernel
theorem d_TK_onlyPresentJudgement_29 : decode m_TK_onlyPresentJudgement.2.1 29 = .ok (.aload_n 1, 1) := by decide +kernel
theorem d_TK_onlyPresentJudgement_30 : decode m_TK_onlyPresentJudgement.2.1 30 = .ok (.areturn, 1) := by decide +kernel
theorem d_TK_presentCount_0 : decode m_TK_presentCount.2.1 0 = .ok (.iconst 0, 1) := by decide +kernel
theorem d_TK_presentCount_1 : decode m_TK_presentCount.2.1 1 = .ok (.istore_n 1, 1) := by decide +kernel
theorem d_TK_presentCount_2 : decode m_TK_presentCount.2.1 2 = .ok (.iconst 0, 1) := by decide +kernel
theorem d_TK_presentCount_3 : decode m_TK_presentCount.2.1 3 = .ok (.istore_n 2, 1) := by decide +kernel
theorem d_TK_presentCount_4 : decode m_TK_presentCount.2.1 4 = .ok (.iload_n 2, 1) := by decide +kernel
theorem d_TK_presentCount_5 : decode m_TK_presentCount.2.1 5 = .ok (.aload_n 0, 1) := by decide +kernel
theorem d_TK_presentCount_6 : decode m_TK_presentCount.2.1 6 = .ok (.getfield 15, 3) := by decide +kernel
theorem d_TK_presentCount_9 : decode m_TK_presentCount.2.1 9 = .ok (.if_icmp .ge 28, 3) := by decide +kernel
theorem d_TK_presentCount_12 : decode m_TK_presentCount.2.1 12 = .ok (.aload_n 0, 1) := by decide +kernel
theorem d_TK_presentCount_13 : decode m_TK_presentCount.2.1 13 = .ok (.getfield 11, 3) := by decide +kernel
theorem d_TK_presentCount_16 : decode m_TK_presentCount.2.1 16 = .ok (.iload_n 2, 1) := by decide +kernel
theorem d_TK_presentCount_17 : decode m_TK_presentCount.2.1 17 = .ok (.aaload, 1) := by decide +kernel
theorem d_TK_presentCount_18 : decode m_TK_presentCount.2.1 18 = .ok (.getfield 166, 3) := by decide +kernel
theorem d_TK_presentCount_21 : decode m_TK_presentCount.2.1 21 = .ok (.aload_n 0, 1) := by decide +kernel
theorem d_TK_presentCount_22 : decode m_TK_presentCount.2.1 22 = .ok (.getfield 25, 3) := by decide +kernel
theorem d_TK_presentCount_25 : decode m_TK_presentCount.2.1 25 = .ok (.if_icmp .ne 6, 3) := by decide +kernel
theorem d_TK_presentCount_28 : decode m_TK_presentCount.2.1 28 = .ok (.iinc 1 1, 3) := by decide +kernel
theorem d_TK_presentCount_31 : decode m_TK_presentCount.2.1 31 = .ok (.iinc 2 1, 3) := by decide +kernel
theorem d_TK_presentCount_34 : decode m_TK_presentCount.2.1 34 = .ok (.goto (-30), 3) := by decide +kernel
theorem d_TK_presentCount_37 : decode m_TK_presentCount.2.1 37 = .ok (.iload_n 1, 1) := by decide +kernel
theorem d_TK_presentCount_38 : decode m_TK_presentCount.2.1 38 = .ok (.ireturn, 1) := by decide +kernel
theorem d_TK_hasSort_0 : decode m_TK_hasSort.2.1 0 = .ok (.aload_n 0, 1) := by decide +kernel
theorem d_TK_hasSort_1 : decode m_TK_hasSort.2.1 1 = .ok (.getfield 71, 3) := by decide +kernel
theorem d_TK_hasSort_4 : decode m_TK_hasSort.2.1 4 = .ok (.iconst 0, 1) := by decide +kernel
theorem d_TK_hasSort_5 : decode m_TK_hasSort.2.1 5 = .ok (.invokevirtual 132, 3) := by decide +kernel
theorem d_TK_hasSort_8 : decode m_TK_hasSort.2.1 8 = .ok (.ifCond .ne 14, 3) := by decide +kernel
theorem d_TK_hasSort_11 : decode m_TK_hasSort.2.1 11 = .ok (.aload_n 0, 1) := by decide +kernel
theorem d_TK_hasSort_12 : decode m_TK_hasSort.2.1 12 = .ok (.getfield 71, 3) := by decide +kernel
theorem d_TK_hasSort_15 : decode m_TK_hasSort.2.1 15 = .ok (.iconst 1, 1) := by decide +kernel
theorem d_TK_hasSort_16 : decode m_TK_hasSort.2.1 16 = .ok (.invokevirtual 132, 3) := by decide +kernel
theorem d_TK_hasSort_19 : decode m_TK_hasSort.2.1 19 = .ok (.ifCond .eq 7, 3) := by decide +kernel
theorem d_TK_hasSort_22 : decode m_TK_hasSort.2.1 22 = .ok (.iconst 1, 1) := by decide +kernel
theorem d_TK_hasSort_23 : decode m_TK_hasSort.2.1 23 = .ok (.goto 4, 3) := by decide +kernel
theorem d_TK_hasSort_26 : decode m_TK_hasSort.2.1 26 = .ok (.iconst 0, 1) := by decide +kernel
theorem d_TK_hasSort_27 : decode m_TK_hasSort.2.1 27 = .ok (.ireturn, 1) := by decide +kernel
theorem d_TK_bind_0 : decode m_TK_bind.2.1 0 = .ok (.aload_n 0, 1) := by decide +kernel
theorem d_TK_bind_1 : decode m_TK_bind.2.1 1 = .ok (.dup, 1) := by decide +kernel
theorem d_TK_bind_2 : decode m_TK_bind.2.1 2 = .ok (.getfield 25, 3) := by decide +kernel
theorem d_TK_bind_5 : decode m_TK_bind.2.1 5 = .ok (.iconst 1, 1) := by decide +kernel
theorem d_TK_bind_6 : decode m_TK_bind.2.1 6 = .ok (.isub, 1) := by decide +kernel
theorem d_TK_bind_7 : decode m_TK_bind.2.1 7 = .ok (.putfield 25, 3) := by decide +kernel
theorem d_TK_bind_10 : decode m_TK_bind.2.1 10 = .ok (.aload_n 1, 1) := by decide +kernel
theorem d_TK_bind_11 : decode m_TK_bind.2.1 11 = .ok (.aload_n 0, 1) := by decide +kernel
theorem d_TK_bind_12 : decode m_TK_bind.2.1 12 = .ok (.getfield 25, 3) := by decide +kernel
theorem d_TK_bind_15 : decode m_TK_bind.2.1 15 = .ok (.putfield 166, 3) := by decide +kernel
theorem d_TK_bind_18 : decode m_TK_bind.2.1 18 = .ok (.aload_n 1, 1) := by decide +kernel
theorem d_TK_bind_19 : decode m_TK_bind.2.1 19 = .ok (.getfield 64, 3) := by decide +kernel
theorem d_TK_bind_22 : decode m_TK_bind.2.1 22 = .ok (.aload_n 0, 1) := by decide +kernel
theorem d_TK_bind_23 : decode m_TK_bind.2.1 23 = .ok (.getfield 53, 3) := by decide +kernel
theorem d_TK_bind_26 : decode m_TK_bind.2.1 26 = .ok (.invokevirtual 81, 3) := by decide +kernel
theorem d_TK_bind_29 : decode m_TK_bind.2.1 29 = .ok (.aload_n 1, 1) := by decide +kernel
theorem d_TK_bind_30 : decode m_TK_bind.2.1 30 = .ok (.getfield 71, 3) := by decide +kernel
theorem d_TK_bind_33 : decode m_TK_bind.2.1 33 = .ok (.aload_n 0, 1) := by decide +kernel
theorem d_TK_bind_34 : decode m_TK_bind.2.1 34 = .ok (.getfield 56, 3) := by decide +kernel
theorem d_TK_bind_37 : decode m_TK_bind.2.1 37 = .ok (.invokevirtual 81, 3) := by decide +kernel
theorem d_TK_bind_40 : decode m_TK_bind.2.1 40 = .ok (.return_, 1) := by decide +kernel
theorem d_TK_isLeftSide_0 : decode m_TK_isLeftSide.2.1 0 = .ok (.aload_n 1, 1) := by decide +kernel
theorem d_TK_isLeftSide_1 : decode m_TK_isLeftSide.2.1 1 = .ok (.aload_n 1, 1) := by decide +kernel
theorem d_TK_isLeftSide_2 : decode m_TK_isLeftSide.2.1 2 = .ok (.iconst 0, 1) := by decide +kernel
theorem d_TK_isLeftSide_3 : decode m_TK_isLeftSide.2.1 3 = .ok (.invokevirtual 194, 3) := by decide +kernel
theorem d_TK_isLeftSide_6 : decode m_TK_isLeftSide.2.1 6 = .ok (.invokevirtual 107, 3) := by decide +kernel
theorem d_TK_isLeftSide_9 : decode m_TK_isLeftSide.2.1 9 = .ok (.istore_n 2, 1) := by decide +kernel
theorem d_TK_isLeftSide_10 : decode m_TK_isLeftSide.2.1 10 = .ok (.aload_n 0, 1) := by decide +kernel
theorem d_TK_isLeftSide_11 : decode m_TK_isLeftSide.2.1 11 = .ok (.iload_n 2, 1) := by decide +kernel
theorem d_TK_isLeftSide_12 : decode m_TK_isLeftSide.2.1 12 = .ok (.bipush 10, 2) := by decide +kernel
theorem d_TK_isLeftSide_14 : decode m_TK_isLeftSide.2.1 14 = .ok (.isub, 1) := by decide +kernel
theorem d_TK_isLeftSide_15 : decode m_TK_isLeftSide.2.1 15 = .ok (.invokevirtual 74, 3) := by decide +kernel
theorem d_TK_isLeftSide_18 : decode m_TK_isLeftSide.2.1 18 = .ok (.ifCond .eq 15, 3) := by decide +kernel
theorem d_TK_isLeftSide_21 : decode m_TK_isLeftSide.2.1 21 = .ok (.aload_n 0, 1) := by decide +kernel
theorem d_TK_isLeftSide_22 : decode m_TK_isLeftSide.2.1 22 = .ok (.getfield 31, 3) := by decide +kernel
theorem d_TK_isLeftSide_25 : decode m_TK_isLeftSide.2.1 25 = .ok (.iload_n 2, 1) := by decide +kernel
theorem d_TK_isLeftSide_26 : decode m_TK_isLeftSide.2.1 26 = .ok (.bipush 10, 2) := by decide +kernel
theorem d_TK_isLeftSide_28 : decode m_TK_isLeftSide.2.1 28 = .ok (.isub, 1) := by decide +kernel
theorem d_TK_isLeftSide_29 : decode m_TK_isLeftSide.2.1 29 = .ok (.baload, 1) := by decide +kernel
theorem d_TK_isLeftSide_30 : decode m_TK_isLeftSide.2.1 30 = .ok (.ifCond .ne 5, 3) := by decide +kernel
theorem d_TK_isLeftSide_33 : decode m_TK_isLeftSide.2.1 33 = .ok (.iconst 0, 1) := by decide +kernel
theorem d_TK_isLeftSide_34 : decode m_TK_isLeftSide.2.1 34 = .ok (.ireturn, 1) := by decide +kernel
theorem d_TK_isLeftSide_35 : decode m_TK_isLeftSide.2.1 35 = .ok (.iconst 0, 1) := by decide +kernel
theorem d_TK_isLeftSide_36 : decode m_TK_isLeftSide.2.1 36 = .ok (.istore_n 3, 1) := by decide +kernel
theorem d_TK_isLeftSide_37 : decode m_TK_isLeftSide.2.1 37 = .ok (.iload_n 3, 1) := by decide +kernel
theorem d_TK_isLeftSide_38 : decode m_TK_isLeftSide.2.1 38 = .ok (.aload_n 1, 1) := by decide +kernel
theorem d_TK_isLeftSide_39 : decode m_TK_isLeftSide.2.1 39 = .ok (.getfield 197, 3) := by decide +kernel
theorem d_TK_isLeftSide_42 : decode m_TK_isLeftSide.2.1 42 = .ok (.if_icmp .ge 19, 3) := by decide +kernel
theorem d_TK_isLeftSide_45 : decode m_TK_isLeftSide.2.1 45 = .ok (.aload_n 1, 1) := by decide +kernel
theorem d_TK_isLeftSide_46 : decode m_TK_isLeftSide.2.1 46 = .ok (.iload_n 3, 1) := by decide +kernel
theorem d_TK_isLeftSide_47 : decode m_TK_isLeftSide.2.1 47 = .ok (.invokestatic 200, 3) := by decide +kernel
theorem d_TK_isLeftSide_50 : decode m_TK_isLeftSide.2.1 50 = .ok (.ifCond .ne 5, 3) := by decide +kernel
theorem d_TK_isLeftSide_53 : decode m_TK_isLeftSide.2.1 53 = .ok (.iconst 0, 1) := by decide +kernel
theorem d_TK_isLeftSide_54 : decode m_TK_isLeftSide.2.1 54 = .ok (.ireturn, 1) := by decide +kernel
theorem d_TK_isLeftSide_55 : decode m_TK_isLeftSide.2.1 55 = .ok (.iinc 3 1, 3) := by decide +kernel
theorem d_TK_isLeftSide_58 : decode m_TK_isLeftSide.2.1 58 = .ok (.goto (-21), 3) := by decide +kernel
theorem d_TK_isLeftSide_61 : decode m_TK_isLeftSide.2.1 61 = .ok (.iconst 0, 1) := by decide +kernel
theorem d_TK_isLeftSide_62 : decode m_TK_isLeftSide.2.1 62 = .ok (.istore_n 3, 1) := by decide +kernel
theorem d_TK_isLeftSide_63 : decode m_TK_isLeftSide.2.1 63 = .ok (.iload_n 3, 1) := by decide +kernel
theorem d_TK_isLeftSide_64 : decode m_TK_isLeftSide.2.1 64 = .ok (.aload_n 0, 1) := by decide +kernel
theorem d_TK_isLeftSide_65 : decode m_TK_isLeftSide.2.1 65 = .ok (.getfield 25, 3) := by decide +kernel
theorem d_TK_isLeftSide_68 : decode m_TK_isLeftSide.2.1 68 = .ok (.if_icmp .ge 23, 3) := by decide +kernel
theorem d_TK_isLeftSide_71 : decode m_TK_isLeftSide.2.1 71 = .ok (.aload_n 1, 1) := by decide +kernel
theorem d_TK_isLeftSide_72 : decode m_TK_isLeftSide.2.1 72 = .ok (.bipush 100, 2) := by decide +kernel
theorem d_TK_isLeftSide_74 : decode m_TK_isLeftSide.2.1 74 = .ok (.iload_n 3, 1) := by decide +kernel
theorem d_TK_isLeftSide_75 : decode m_TK_isLeftSide.2.1 75 = .ok (.iadd, 1) := by decide +kernel
theorem d_TK_isLeftSide_76 : decode m_TK_isLeftSide.2.1 76 = .ok (.invokevirtual 204, 3) := by decide +kernel
theorem d_TK_isLeftSide_79 : decode m_TK_isLeftSide.2.1 79 = .ok (.iconst 1, 1) := by decide +kernel
theorem d_TK_isLeftSide_80 : decode m_TK_isLeftSide.2.1 80 = .ok (.if_icmp .eq 5, 3) := by decide +kernel
theorem d_TK_isLeftSide_83 : decode m_TK_isLeftSide.2.1 83 = .ok (.iconst 0, 1) := by decide +kernel
theorem d_TK_isLeftSide_84 : decode m_TK_isLeftSide.2.1 84 = .ok (.ireturn, 1) := by decide +kernel
theorem d_TK_isLeftSide_85 : decode m_TK_isLeftSide.2.1 85 = .ok (.iinc 3 1, 3) := by decide +kernel
theorem d_TK_isLeftSide_88 : decode m_TK_isLeftSide.2.1 88 = .ok (.goto (-25), 3) := by decide +kernel
theorem d_TK_isLeftSide_91 : decode m_TK_isLeftSide.2.1 91 = .ok (.iconst 1, 1) := by decide +kernel
theorem d_TK_isLeftSide_92 : decode m_TK_isLeftSide.2.1 92 = .ok (.ireturn, 1) := by decide +kernel
theorem d_TK_mayStandInPattern_0 : decode m_TK_mayStandInPattern.2.1 0 = .ok (.aload_n 0, 1) := by decide +kernel
theorem d_TK_mayStandInPattern_1 : decode m_TK_mayStandInPattern.2.1 1 = .ok (.iload_n 1, 1) := by decide +kernel
theorem d_TK_mayStandInPattern_2 : decode m_TK_mayStandInPattern.2.1 2 = .ok (.invokevirtual 107, 3) := by decide +kernel
theorem d_TK_mayStandInPattern_5 : decode m_TK_mayStandInPattern.2.1 5 = .ok (.istore_n 2, 1) := by decide +kernel
theorem d_TK_mayStandInPattern_6 : decode m_TK_mayStandInPattern.2.1 6 = .ok (.iload_n 2, 1) := by decide +kernel
theorem d_TK_mayStandInPattern_7 : decode m_TK_mayStandInPattern.2.1 7 = .ok (.bipush 100, 2) := by decide +kernel
theorem d_TK_mayStandInPattern_9 : decode m_TK_mayStandInPattern.2.1 9 = .ok (.if_icmp .lt 20, 3) := by decide +kernel
theorem d_TK_mayStandInPattern_12 : decode m_TK_mayStandInPattern.2.1 12 = .ok (.aload_n 0, 1) := by decide +kernel
theorem d_TK_mayStandInPattern_13 : decode m_TK_mayStandInPattern.2.1 13 = .ok (.iload_n 1, 1) := by decide +kernel
theorem d_TK_mayStandInPattern_14 : decode m_TK_mayStandInPattern.2.1 14 = .ok (.iconst 1, 1) := by decide +kernel
theorem d_TK_mayStandInPattern_15 : decode m_TK_mayStandInPattern.2.1 15 = .ok (.isub, 1) := by decide +kernel
theorem d_TK_mayStandInPattern_16 : decode m_TK_mayStandInPattern.2.1 16 = .ok (.invokevirtual 107, 3) := by decide +kernel
theorem d_TK_mayStandInPattern_19 : decode m_TK_mayStandInPattern.2.1 19 = .ok (.iconst 2, 1) := by decide +kernel
theorem d_TK_mayStandInPattern_20 : decode m_TK_mayStandInPattern.2.1 20 = .ok (.if_icmp .eq 7, 3) := by decide +kernel
theorem d_TK_mayStandInPattern_23 : decode m_TK_mayStandInPattern.2.1 23 = .ok (.iconst 1, 1) := by decide +kernel
theorem d_TK_mayStandInPattern_24 : decode m_TK_mayStandInPattern.2.1 24 = .ok (.goto 4, 3) := by decide +kernel
theorem d_TK_mayStandInPattern_27 : decode m_TK_mayStandInPattern.2.1 27 = .ok (.iconst 0, 1) := by decide +kernel
theorem d_TK_mayStandInPattern_28 : decode m_TK_mayStandInPattern.2.1 28 = .ok (.ireturn, 1) := by decide +kernel
theorem d_TK_mayStandInPattern_29 : decode m_TK_mayStandInPattern.2.1 29 = .ok (.iload_n 2, 1) := by decide +kernel
theorem d_TK_mayStandInPattern_30 : decode m_TK_mayStandInPattern.2.1 30 = .ok (.bipush 10, 2) := by decide +kernel
theorem d_TK_mayStandInPattern_32 : decode m_TK_mayStandInPattern.2.1 32 = .ok (.if_icmp .ge 8, 3) := by decide +kernel
theorem d_TK_mayStandInPattern_35 : decode m_TK_mayStandInPattern.2.1 35 = .ok (.iload_n 2, 1) := by decide +kernel
theorem d_TK_mayStandInPattern_36 : decode m_TK_mayStandInPattern.2.1 36 = .ok (.iconst 2, 1) := by decide +kernel
theorem d_TK_mayStandInPattern_37 : decode m_TK_mayStandInPattern.2.1 37 = .ok (.if_icmp .ne 7, 3) := by decide +kernel
theorem d_TK_mayStandInPattern_40 : decode m_TK_mayStandInPattern.2.1 40 = .ok (.iconst 1, 1) := by decide +kernel
theorem d_TK_mayStandInPattern_41 : decode m_TK_mayStandInPattern.2.1 41 = .ok (.goto 4, 3) := by decide +kernel
theorem d_TK_mayStandInPattern_44 : decode m_TK_mayStandInPattern.2.1 44 = .ok (.iconst 0, 1) := by decide +kernel
theorem d_TK_mayStandInPattern_45 : decode m_TK_mayStandInPattern.2.1 45 = .ok (.ireturn, 1) := by decide +kernel
