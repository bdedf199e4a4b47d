theorem d_Lw_sort_0 : decode m_Lw_sort.2.1 0 = .ok (.aload_n 0, 1) := by decide +kernel
theorem d_Lw_sort_1 : decode m_Lw_sort.2.1 1 = .ok (.invokevirtual 7, 3) := by decide +kernel
theorem d_Lw_sort_4 : decode m_Lw_sort.2.1 4 = .ok (.goto 6, 3) := by decide +kernel
theorem d_Lw_sort_7 : decode m_Lw_sort.2.1 7 = .ok (.astore_n 1, 1) := by decide +kernel
theorem d_Lw_sort_8 : decode m_Lw_sort.2.1 8 = .ok (.iconst 1, 1) := by decide +kernel
theorem d_Lw_sort_9 : decode m_Lw_sort.2.1 9 = .ok (.ireturn, 1) := by decide +kernel
theorem d_Lw_sort_10 : decode m_Lw_sort.2.1 10 = .ok (.iconst 0, 1) := by decide +kernel
theorem d_Lw_sort_11 : decode m_Lw_sort.2.1 11 = .ok (.ireturn, 1) := by decide +kernel
theorem d_Lw_constant_0 : decode m_Lw_constant.2.1 0 = .ok (.aload_n 0, 1) := by decide +kernel
theorem d_Lw_constant_1 : decode m_Lw_constant.2.1 1 = .ok (.iload_n 1, 1) := by decide +kernel
theorem d_Lw_constant_2 : decode m_Lw_constant.2.1 2 = .ok (.invokevirtual 14, 3) := by decide +kernel
theorem d_Lw_constant_5 : decode m_Lw_constant.2.1 5 = .ok (.goto 9, 3) := by decide +kernel
theorem d_Lw_constant_8 : decode m_Lw_constant.2.1 8 = .ok (.astore_n 2, 1) := by decide +kernel
theorem d_Lw_constant_9 : decode m_Lw_constant.2.1 9 = .ok (.iconst 1, 1) := by decide +kernel
theorem d_Lw_constant_10 : decode m_Lw_constant.2.1 10 = .ok (.ireturn, 1) := by decide +kernel
theorem d_Lw_constant_11 : decode m_Lw_constant.2.1 11 = .ok (.astore_n 2, 1) := by decide +kernel
theorem d_Lw_constant_12 : decode m_Lw_constant.2.1 12 = .ok (.iconst 2, 1) := by decide +kernel
theorem d_Lw_constant_13 : decode m_Lw_constant.2.1 13 = .ok (.ireturn, 1) := by decide +kernel
theorem d_Lw_constant_14 : decode m_Lw_constant.2.1 14 = .ok (.iconst 0, 1) := by decide +kernel
theorem d_Lw_constant_15 : decode m_Lw_constant.2.1 15 = .ok (.ireturn, 1) := by decide +kernel
theorem d_Lw_variable_0 : decode m_Lw_variable.2.1 0 = .ok (.aload_n 0, 1) := by decide +kernel
theorem d_Lw_variable_1 : decode m_Lw_variable.2.1 1 = .ok (.iload_n 1, 1) := by decide +kernel
theorem d_Lw_variable_2 : decode m_Lw_variable.2.1 2 = .ok (.invokevirtual 20, 3) := by decide +kernel
theorem d_Lw_variable_5 : decode m_Lw_variable.2.1 5 = .ok (.goto 9, 3) := by decide +kernel
theorem d_Lw_variable_8 : decode m_Lw_variable.2.1 8 = .ok (.astore_n 2, 1) := by decide +kernel
theorem d_Lw_variable_9 : decode m_Lw_variable.2.1 9 = .ok (.iconst 1, 1) := by decide +kernel
theorem d_Lw_variable_10 : decode m_Lw_variable.2.1 10 = .ok (.ireturn, 1) := by decide +kernel
theorem d_Lw_variable_11 : decode m_Lw_variable.2.1 11 = .ok (.astore_n 2, 1) := by decide +kernel
theorem d_Lw_variable_12 : decode m_Lw_variable.2.1 12 = .ok (.iconst 2, 1) := by decide +kernel
theorem d_Lw_variable_13 : decode m_Lw_variable.2.1 13 = .ok (.ireturn, 1) := by decide +kernel
theorem d_Lw_variable_14 : decode m_Lw_variable.2.1 14 = .ok (.iconst 0, 1) := by decide +kernel
theorem d_Lw_variable_15 : decode m_Lw_variable.2.1 15 = .ok (.ireturn, 1) := by decide +kernel
theorem d_Lw_apply_0 : decode m_Lw_apply.2.1 0 = .ok (.aload_n 0, 1) := by decide +kernel
theorem d_Lw_apply_1 : decode m_Lw_apply.2.1 1 = .ok (.invokevirtual 23, 3) := by decide +kernel
theorem d_Lw_apply_4 : decode m_Lw_apply.2.1 4 = .ok (.goto 12, 3) := by decide +kernel
theorem d_Lw_apply_7 : decode m_Lw_apply.2.1 7 = .ok (.astore_n 1, 1) := by decide +kernel
theorem d_Lw_apply_8 : decode m_Lw_apply.2.1 8 = .ok (.iconst 1, 1) := by decide +kernel
theorem d_Lw_apply_9 : decode m_Lw_apply.2.1 9 = .ok (.ireturn, 1) := by decide +kernel
theorem d_Lw_apply_10 : decode m_Lw_apply.2.1 10 = .ok (.astore_n 1, 1) := by decide +kernel
theorem d_Lw_apply_11 : decode m_Lw_apply.2.1 11 = .ok (.iconst 2, 1) := by decide +kernel
theorem d_Lw_apply_12 : decode m_Lw_apply.2.1 12 = .ok (.ireturn, 1) := by decide +kernel
theorem d_Lw_apply_13 : decode m_Lw_apply.2.1 13 = .ok (.astore_n 1, 1) := by decide +kernel
theorem d_Lw_apply_14 : decode m_Lw_apply.2.1 14 = .ok (.iconst 3, 1) := by decide +kernel
theorem d_Lw_apply_15 : decode m_Lw_apply.2.1 15 = .ok (.ireturn, 1) := by decide +kernel
theorem d_Lw_apply_16 : decode m_Lw_apply.2.1 16 = .ok (.iconst 0, 1) := by decide +kernel
theorem d_Lw_apply_17 : decode m_Lw_apply.2.1 17 = .ok (.ireturn, 1) := by decide +kernel
theorem d_Lw_assume_0 : decode m_Lw_assume.2.1 0 = .ok (.aload_n 0, 1) := by decide +kernel
theorem d_Lw_assume_1 : decode m_Lw_assume.2.1 1 = .ok (.invokevirtual 32, 3) := by decide +kernel
theorem d_Lw_assume_4 : decode m_Lw_assume.2.1 4 = .ok (.goto 12, 3) := by decide +kernel
theorem d_Lw_assume_7 : decode m_Lw_assume.2.1 7 = .ok (.astore_n 1, 1) := by decide +kernel
theorem d_Lw_assume_8 : decode m_Lw_assume.2.1 8 = .ok (.iconst 1, 1) := by decide +kernel
theorem d_Lw_assume_9 : decode m_Lw_assume.2.1 9 = .ok (.ireturn, 1) := by decide +kernel
theorem d_Lw_assume_10 : decode m_Lw_assume.2.1 10 = .ok (.astore_n 1, 1) := by decide +kernel
theorem d_Lw_assume_11 : decode m_Lw_assume.2.1 11 = .ok (.iconst 2, 1) := by decide +kernel
theorem d_Lw_assume_12 : decode m_Lw_assume.2.1 12 = .ok (.ireturn, 1) := by decide +kernel
theorem d_Lw_assume_13 : decode m_Lw_assume.2.1 13 = .ok (.astore_n 1, 1) := by decide +kernel
theorem d_Lw_assume_14 : decode m_Lw_assume.2.1 14 = .ok (.iconst 3, 1) := by decide +kernel
theorem d_Lw_assume_15 : decode m_Lw_assume.2.1 15 = .ok (.ireturn, 1) := by decide +kernel
theorem d_Lw_assume_16 : decode m_Lw_assume.2.1 16 = .ok (.iconst 0, 1) := by decide +kernel
theorem d_Lw_assume_17 : decode m_Lw_assume.2.1 17 = .ok (.ireturn, 1) := by decide +kernel
theorem d_Lw_lambda_0 : decode m_Lw_lambda.2.1 0 = .ok (.aload_n 0, 1) := by decide +kernel
theorem d_Lw_lambda_1 : decode m_Lw_lambda.2.1 1 = .ok (.invokevirtual 35, 3) := by decide +kernel
theorem d_Lw_lambda_4 : decode m_Lw_lambda.2.1 4 = .ok (.goto 12, 3) := by decide +kernel
theorem d_Lw_lambda_7 : decode m_Lw_lambda.2.1 7 = .ok (.astore_n 1, 1) := by decide +kernel
theorem d_Lw_lambda_8 : decode m_Lw_lambda.2.1 8 = .ok (.iconst 1, 1) := by decide +kernel
theorem d_Lw_lambda_9 : decode m_Lw_lambda.2.1 9 = .ok (.ireturn, 1) := by decide +kernel
theorem d_Lw_lambda_10 : decode m_Lw_lambda.2.1 10 = .ok (.astore_n 1, 1) := by decide +kernel
theorem d_Lw_lambda_11 : decode m_Lw_lambda.2.1 11 = .ok (.iconst 2, 1) := by decide +kernel
theorem d_Lw_lambda_12 : decode m_Lw_lambda.2.1 12 = .ok (.ireturn, 1) := by decide +kernel
theorem d_Lw_lambda_13 : decode m_Lw_lambda.2.1 13 = .ok (.astore_n 1, 1) := by decide +kernel
theorem d_Lw_lambda_14 : decode m_Lw_lambda.2.1 14 = .ok (.iconst 3, 1) := by decide +kernel
theorem d_Lw_lambda_15 : decode m_Lw_lambda.2.1 15 = .ok (.ireturn, 1) := by decide +kernel
theorem d_Lw_lambda_16 : decode m_Lw_lambda.2.1 16 = .ok (.iconst 0, 1) := by decide +kernel
theorem d_Lw_lambda_17 : decode m_Lw_lambda.2.1 17 = .ok (.ireturn, 1) := by decide +kernel
theorem d_Lw_product_0 : decode m_Lw_product.2.1 0 = .ok (.aload_n 0, 1) := by decide +kernel
theorem d_Lw_product_1 : decode m_Lw_product.2.1 1 = .ok (.invokevirtual 38, 3) := by decide +kernel
theorem d_Lw_product_4 : decode m_Lw_product.2.1 4 = .ok (.goto 12, 3) := by decide +kernel
theorem d_Lw_product_7 : decode m_Lw_product.2.1 7 = .ok (.astore_n 1, 1) := by decide +kernel
theorem d_Lw_product_8 : decode m_Lw_product.2.1 8 = .ok (.iconst 1, 1) := by decide +kernel
theorem d_Lw_product_9 : decode m_Lw_product.2.1 9 = .ok (.ireturn, 1) := by decide +kernel
theorem d_Lw_product_10 : decode m_Lw_product.2.1 10 = .ok (.astore_n 1, 1) := by decide +kernel
theorem d_Lw_product_11 : decode m_Lw_product.2.1 11 = .ok (.iconst 2, 1) := by decide +kernel
theorem d_Lw_product_12 : decode m_Lw_product.2.1 12 = .ok (.ireturn, 1) := by decide +kernel
theorem d_Lw_product_13 : decode m_Lw_product.2.1 13 = .ok (.astore_n 1, 1) := by decide +kernel
theorem d_Lw_product_14 : decode m_Lw_product.2.1 14 = .ok (.iconst 3, 1) := by decide +kernel
theorem d_Lw_product_15 : decode m_Lw_product.2.1 15 = .ok (.ireturn, 1) := by decide +kernel
theorem d_Lw_product_16 : decode m_Lw_product.2.1 16 = .ok (.iconst 0, 1) := by decide +kernel
theorem d_Lw_product_17 : decode m_Lw_product.2.1 17 = .ok (.ireturn, 1) := by decide +kernel
theorem d_Lw_declare_0 : decode m_Lw_declare.2.1 0 = .ok (.aload_n 2, 1) := by decide +kernel
theorem d_Lw_declare_1 : decode m_Lw_declare.2.1 1 = .ok (.iconst 0, 1) := by decide +kernel
theorem d_Lw_declare_2 : decode m_Lw_declare.2.1 2 = .ok (.aload_n 0, 1) := by decide +kernel
theorem d_Lw_declare_3 : decode m_Lw_declare.2.1 3 = .ok (.iload_n 1, 1) := by decide +kernel
theorem d_Lw_declare_4 : decode m_Lw_declare.2.1 4 = .ok (.invokevirtual 41, 3) := by decide +kernel
theorem d_Lw_declare_7 : decode m_Lw_declare.2.1 7 = .ok (.i2l, 1) := by decide +kernel
theorem d_Lw_declare_8 : decode m_Lw_declare.2.1 8 = .ok (.lastore, 1) := by decide +kernel
theorem d_Lw_declare_9 : decode m_Lw_declare.2.1 9 = .ok (.goto 12, 3) := by decide +kernel
theorem d_Lw_declare_12 : decode m_Lw_declare.2.1 12 = .ok (.astore_n 3, 1) := by decide +kernel
theorem d_Lw_declare_13 : decode m_Lw_declare.2.1 13 = .ok (.iconst 1, 1) := by decide +kernel
theorem d_Lw_declare_14 : decode m_Lw_declare.2.1 14 = .ok (.ireturn, 1) := by decide +kernel
theorem d_Lw_declare_15 : decode m_Lw_declare.2.1 15 = .ok (.astore_n 3, 1) := by decide +kernel
theorem d_Lw_declare_16 : decode m_Lw_declare.2.1 16 = .ok (.iconst 2, 1) := by decide +kernel
theorem d_Lw_declare_17 : decode m_Lw_declare.2.1 17 = .ok (.ireturn, 1) := by decide +kernel
theorem d_Lw_declare_18 : decode m_Lw_declare.2.1 18 = .ok (.astore_n 3, 1) := by decide +kernel
theorem d_Lw_declare_19 : decode m_Lw_declare.2.1 19 = .ok (.iconst 3, 1) := by decide +kernel
theorem d_Lw_declare_20 : decode m_Lw_declare.2.1 20 = .ok (.ireturn, 1) := by decide +kernel
theorem d_Lw_declare_21 : decode m_Lw_declare.2.1 21 = .ok (.iconst 0, 1) := by decide +kernel
theorem d_Lw_declare_22 : decode m_Lw_declare.2.1 22 = .ok (.ireturn, 1) := by decide +kernel
theorem d_Lw_rule_0 : decode m_Lw_rule.2.1 0 = .ok (.aload_n 1, 1) := by decide +kernel
theorem d_Lw_rule_1 : decode m_Lw_rule.2.1 1 = .ok (.iconst 0, 1) := by decide +kernel
theorem d_Lw_rule_2 : decode m_Lw_rule.2.1 2 = .ok (.aload_n 0, 1) := by decide +kernel
theorem d_Lw_rule_3 : decode m_Lw_rule.2.1 3 = .ok (.invokevirtual 45, 3) := by decide +kernel
theorem d_Lw_rule_6 : decode m_Lw_rule.2.1 6 = .ok (.i2l, 1) := by decide +kernel
theorem d_Lw_rule_7 : decode m_Lw_rule.2.1 7 = .ok (.lastore, 1) := by decide +kernel
theorem d_Lw_rule_8 : decode m_Lw_rule.2.1 8 = .ok (.goto 15, 3) := by decide +kernel
theorem d_Lw_rule_11 : decode m_Lw_rule.2.1 11 = .ok (.astore_n 2, 1) := by decide +kernel
theorem d_Lw_rule_12 : decode m_Lw_rule.2.1 12 = .ok (.iconst 1, 1) := by decide +kernel
theorem d_Lw_rule_13 : decode m_Lw_rule.2.1 13 = .ok (.ireturn, 1) := by decide +kernel
theorem d_Lw_rule_14 : decode m_Lw_rule.2.1 14 = .ok (.astore_n 2, 1) := by decide +kernel
theorem d_Lw_rule_15 : decode m_Lw_rule.2.1 15 = .ok (.iconst 2, 1) := by decide +kernel
theorem d_Lw_rule_16 : decode m_Lw_rule.2.1 16 = .ok (.ireturn, 1) := by decide +kernel
theorem d_Lw_rule_17 : decode m_Lw_rule.2.1 17 = .ok (.astore_n 2, 1) := by decide +kernel
theorem d_Lw_rule_18 : decode m_Lw_rule.2.1 18 = .ok (.iconst 3, 1) := by decide +kernel
theorem d_Lw_rule_19 : decode m_Lw_rule.2.1 19 = .ok (.ireturn, 1) := by decide +kernel
theorem d_Lw_rule_20 : decode m_Lw_rule.2.1 20 = .ok (.astore_n 2, 1) := by decide +kernel
theorem d_Lw_rule_21 : decode m_Lw_rule.2.1 21 = .ok (.iconst 4, 1) := by decide +kernel
theorem d_Lw_rule_22 : decode m_Lw_rule.2.1 22 = .ok (.ireturn, 1) := by decide +kernel
theorem d_Lw_rule_23 : decode m_Lw_rule.2.1 23 = .ok (.iconst 0, 1) := by decide +kernel
theorem d_Lw_rule_24 : decode m_Lw_rule.2.1 24 = .ok (.ireturn, 1) := by decide +kernel
theorem d_Lw_normal_0 : decode m_Lw_normal.2.1 0 = .ok (.aload_n 1, 1) := by decide +kernel
theorem d_Lw_normal_1 : decode m_Lw_normal.2.1 1 = .ok (.iconst 0, 1) := by decide +kernel
theorem d_Lw_normal_2 : decode m_Lw_normal.2.1 2 = .ok (.aload_n 0, 1) := by decide +kernel
theorem d_Lw_normal_3 : decode m_Lw_normal.2.1 3 = .ok (.invokevirtual 49, 3) := by decide +kernel
theorem d_Lw_normal_6 : decode m_Lw_normal.2.1 6 = .ok (.i2l, 1) := by decide +kernel
theorem d_Lw_normal_7 : decode m_Lw_normal.2.1 7 = .ok (.lastore, 1) := by decide +kernel
theorem d_Lw_normal_8 : decode m_Lw_normal.2.1 8 = .ok (.goto 9, 3) := by decide +kernel
theorem d_Lw_normal_11 : decode m_Lw_normal.2.1 11 = .ok (.astore_n 2, 1) := by decide +kernel
theorem d_Lw_normal_12 : decode m_Lw_normal.2.1 12 = .ok (.iconst 1, 1) := by decide +kernel
theorem d_Lw_normal_13 : decode m_Lw_normal.2.1 13 = .ok (.ireturn, 1) := by decide +kernel
theorem d_Lw_normal_14 : decode m_Lw_normal.2.1 14 = .ok (.astore_n 2, 1) := by decide +kernel
theorem d_Lw_normal_15 : decode m_Lw_normal.2.1 15 = .ok (.iconst 2, 1) := by decide +kernel
theorem d_Lw_normal_16 : decode m_Lw_normal.2.1 16 = .ok (.ireturn, 1) := by decide +kernel
theorem d_Lw_normal_17 : decode m_Lw_normal.2.1 17 = .ok (.iconst 0, 1) := by decide +kernel
theorem d_Lw_normal_18 : decode m_Lw_normal.2.1 18 = .ok (.ireturn, 1) := by decide +kernel
theorem d_Lw_same_0 : decode m_Lw_same.2.1 0 = .ok (.aload_n 1, 1) := by decide +kernel
theorem d_Lw_same_1 : decode m_Lw_same.2.1 1 = .ok (.iconst 0, 1) := by decide +kernel
theorem d_Lw_same_2 : decode m_Lw_same.2.1 2 = .ok (.aload_n 0, 1) := by decide +kernel
theorem d_Lw_same_3 : decode m_Lw_same.2.1 3 = .ok (.invokevirtual 52, 3) := by decide +kernel
theorem d_Lw_same_6 : decode m_Lw_same.2.1 6 = .ok (.ifCond .eq 7, 3) := by decide +kernel
theorem d_Lw_same_9 : decode m_Lw_same.2.1 9 = .ok (.lconst 1, 1) := by decide +kernel
theorem d_Lw_same_10 : decode m_Lw_same.2.1 10 = .ok (.goto 4, 3) := by decide +kernel
theorem d_Lw_same_13 : decode m_Lw_same.2.1 13 = .ok (.lconst 0, 1) := by decide +kernel
theorem d_Lw_same_14 : decode m_Lw_same.2.1 14 = .ok (.lastore, 1) := by decide +kernel
theorem d_Lw_same_15 : decode m_Lw_same.2.1 15 = .ok (.goto 9, 3) := by decide +kernel
theorem d_Lw_same_18 : decode m_Lw_same.2.1 18 = .ok (.astore_n 2, 1) := by decide +kernel
theorem d_Lw_same_19 : decode m_Lw_same.2.1 19 = .ok (.iconst 1, 1) := by decide +kernel
theorem d_Lw_same_20 : decode m_Lw_same.2.1 20 = .ok (.ireturn, 1) := by decide +kernel
theorem d_Lw_same_21 : decode m_Lw_same.2.1 21 = .ok (.astore_n 2, 1) := by decide +kernel
theorem d_Lw_same_22 : decode m_Lw_same.2.1 22 = .ok (.iconst 2, 1) := by decide +kernel
theorem d_Lw_same_23 : decode m_Lw_same.2.1 23 = .ok (.ireturn, 1) := by decide +kernel
theorem d_Lw_same_24 : decode m_Lw_same.2.1 24 = .ok (.iconst 0, 1) := by decide +kernel
theorem d_Lw_same_25 : decode m_Lw_same.2.1 25 = .ok (.ireturn, 1) := by decide +kernel
theorem d_Lw_law_0 : decode m_Lw_law.2.1 0 = .ok (.new 8, 3) := by decide +kernel
theorem d_Lw_law_3 : decode m_Lw_law.2.1 3 = .ok (.dup, 1) := by decide +kernel
theorem d_Lw_law_4 : decode m_Lw_law.2.1 4 = .ok (.invokespecial 56, 3) := by decide +kernel
theorem d_Lw_law_7 : decode m_Lw_law.2.1 7 = .ok (.astore_n 1, 1) := by decide +kernel
theorem d_Lw_law_8 : decode m_Lw_law.2.1 8 = .ok (.new 57, 3) := by decide +kernel
theorem d_Lw_law_11 : decode m_Lw_law.2.1 11 = .ok (.dup, 1) := by decide +kernel
theorem d_Lw_law_12 : decode m_Lw_law.2.1 12 = .ok (.invokespecial 59, 3) := by decide +kernel
theorem d_Lw_law_15 : decode m_Lw_law.2.1 15 = .ok (.astore_n 2, 1) := by decide +kernel
theorem d_Lw_law_16 : decode m_Lw_law.2.1 16 = .ok (.iconst 1, 1) := by decide +kernel
theorem d_Lw_law_17 : decode m_Lw_law.2.1 17 = .ok (.newarray .long, 2) := by decide +kernel
theorem d_Lw_law_19 : decode m_Lw_law.2.1 19 = .ok (.astore_n 3, 1) := by decide +kernel
theorem d_Lw_law_20 : decode m_Lw_law.2.1 20 = .ok (.iconst 0, 1) := by decide +kernel
theorem d_Lw_law_21 : decode m_Lw_law.2.1 21 = .ok (.istore 4, 2) := by decide +kernel
theorem d_Lw_law_23 : decode m_Lw_law.2.1 23 = .ok (.iload 4, 2) := by decide +kernel
theorem d_Lw_law_25 : decode m_Lw_law.2.1 25 = .ok (.aload_n 0, 1) := by decide +kernel
theorem d_Lw_law_26 : decode m_Lw_law.2.1 26 = .ok (.arraylength, 1) := by decide +kernel
theorem d_Lw_law_27 : decode m_Lw_law.2.1 27 = .ok (.iconst 4, 1) := by decide +kernel
theorem d_Lw_law_28 : decode m_Lw_law.2.1 28 = .ok (.isub, 1) := by decide +kernel
theorem d_Lw_law_29 : decode m_Lw_law.2.1 29 = .ok (.if_icmp .gt 776, 3) := by decide +kernel
theorem d_Lw_law_32 : decode m_Lw_law.2.1 32 = .ok (.aload_n 0, 1) := by decide +kernel
theorem d_Lw_law_33 : decode m_Lw_law.2.1 33 = .ok (.iload 4, 2) := by decide +kernel
theorem d_Lw_law_35 : decode m_Lw_law.2.1 35 = .ok (.iaload, 1) := by decide +kernel
theorem d_Lw_law_36 : decode m_Lw_law.2.1 36 = .ok (.bipush 31, 2) := by decide +kernel
theorem d_Lw_law_38 : decode m_Lw_law.2.1 38 = .ok (.iand, 1) := by decide +kernel
theorem d_Lw_law_39 : decode m_Lw_law.2.1 39 = .ok (.tableswitch 760 0 18 #[89, 113, 149, 185, 209, 233, 257, 281, 353, 397, 441, 492, 505, 518, 531, 596, 621, 658, 695], 89) := by decide +kernel
theorem d_Lw_law_128 : decode m_Lw_law.2.1 128 = .ok (.aload_n 1, 1) := by decide +kernel
theorem d_Lw_law_129 : decode m_Lw_law.2.1 129 = .ok (.invokestatic 60, 3) := by decide +kernel
theorem d_Lw_law_132 : decode m_Lw_law.2.1 132 = .ok (.istore 5, 2) := by decide +kernel
theorem d_Lw_law_134 : decode m_Lw_law.2.1 134 = .ok (.aload_n 2, 1) := by decide +kernel
theorem d_Lw_law_135 : decode m_Lw_law.2.1 135 = .ok (.invokevirtual 65, 3) := by decide +kernel
theorem d_Lw_law_138 : decode m_Lw_law.2.1 138 = .ok (.aload_n 2, 1) := by decide +kernel
theorem d_Lw_law_139 : decode m_Lw_law.2.1 139 = .ok (.invokevirtual 66, 3) := by decide +kernel
theorem d_Lw_law_142 : decode m_Lw_law.2.1 142 = .ok (.iload 5, 2) := by decide +kernel
theorem d_Lw_law_144 : decode m_Lw_law.2.1 144 = .ok (.if_icmp .eq 5, 3) := by decide +kernel
theorem d_Lw_law_147 : decode m_Lw_law.2.1 147 = .ok (.iconst 0, 1) := by decide +kernel
theorem d_Lw_law_148 : decode m_Lw_law.2.1 148 = .ok (.ireturn, 1) := by decide +kernel
theorem d_Lw_law_149 : decode m_Lw_law.2.1 149 = .ok (.goto 650, 3) := by decide +kernel
theorem d_Lw_law_152 : decode m_Lw_law.2.1 152 = .ok (.aload_n 1, 1) := by decide +kernel
theorem d_Lw_law_153 : decode m_Lw_law.2.1 153 = .ok (.aload_n 0, 1) := by decide +kernel
theorem d_Lw_law_154 : decode m_Lw_law.2.1 154 = .ok (.iload 4, 2) := by decide +kernel
theorem d_Lw_law_156 : decode m_Lw_law.2.1 156 = .ok (.iconst 1, 1) := by decide +kernel
theorem d_Lw_law_157 : decode m_Lw_law.2.1 157 = .ok (.iadd, 1) := by decide +kernel
theorem d_Lw_law_158 : decode m_Lw_law.2.1 158 = .ok (.iaload, 1) := by decide +kernel
theorem d_Lw_law_159 : decode m_Lw_law.2.1 159 = .ok (.invokestatic 69, 3) := by decide +kernel
theorem d_Lw_law_162 : decode m_Lw_law.2.1 162 = .ok (.istore 5, 2) := by decide +kernel
theorem d_Lw_law_164 : decode m_Lw_law.2.1 164 = .ok (.aload_n 2, 1) := by decide +kernel
theorem d_Lw_law_165 : decode m_Lw_law.2.1 165 = .ok (.aload_n 0, 1) := by decide +kernel
theorem d_Lw_law_166 : decode m_Lw_law.2.1 166 = .ok (.iload 4, 2) := by decide +kernel
theorem d_Lw_law_168 : decode m_Lw_law.2.1 168 = .ok (.iconst 1, 1) := by decide +kernel
theorem d_Lw_law_169 : decode m_Lw_law.2.1 169 = .ok (.iadd, 1) := by decide +kernel
theorem d_Lw_law_170 : decode m_Lw_law.2.1 170 = .ok (.iaload, 1) := by decide +kernel
theorem d_Lw_law_171 : decode m_Lw_law.2.1 171 = .ok (.invokevirtual 72, 3) := by decide +kernel
theorem d_Lw_law_174 : decode m_Lw_law.2.1 174 = .ok (.aload_n 2, 1) := by decide +kernel
theorem d_Lw_law_175 : decode m_Lw_law.2.1 175 = .ok (.invokevirtual 66, 3) := by decide +kernel
theorem d_Lw_law_178 : decode m_Lw_law.2.1 178 = .ok (.iload 5, 2) := by decide +kernel
theorem d_Lw_law_180 : decode m_Lw_law.2.1 180 = .ok (.if_icmp .eq 5, 3) := by decide +kernel
theorem d_Lw_law_183 : decode m_Lw_law.2.1 183 = .ok (.iconst 0, 1) := by decide +kernel
theorem d_Lw_law_184 : decode m_Lw_law.2.1 184 = .ok (.ireturn, 1) := by decide +kernel
theorem d_Lw_law_185 : decode m_Lw_law.2.1 185 = .ok (.goto 614, 3) := by decide +kernel
theorem d_Lw_law_188 : decode m_Lw_law.2.1 188 = .ok (.aload_n 1, 1) := by decide +kernel
theorem d_Lw_law_189 : decode m_Lw_law.2.1 189 = .ok (.aload_n 0, 1) := by decide +kernel
theorem d_Lw_law_190 : decode m_Lw_law.2.1 190 = .ok (.iload 4, 2) := by decide +kernel
theorem d_Lw_law_192 : decode m_Lw_law.2.1 192 = .ok (.iconst 1, 1) := by decide +kernel
theorem d_Lw_law_193 : decode m_Lw_law.2.1 193 = .ok (.iadd, 1) := by decide +kernel
theorem d_Lw_law_194 : decode m_Lw_law.2.1 194 = .ok (.iaload, 1) := by decide +kernel
theorem d_Lw_law_195 : decode m_Lw_law.2.1 195 = .ok (.invokestatic 73, 3) := by decide +kernel
theorem d_Lw_law_198 : decode m_Lw_law.2.1 198 = .ok (.istore 5, 2) := by decide +kernel
theorem d_Lw_law_200 : decode m_Lw_law.2.1 200 = .ok (.aload_n 2, 1) := by decide +kernel
theorem d_Lw_law_201 : decode m_Lw_law.2.1 201 = .ok (.aload_n 0, 1) := by decide +kernel
theorem d_Lw_law_202 : decode m_Lw_law.2.1 202 = .ok (.iload 4, 2) := by decide +kernel
theorem d_Lw_law_204 : decode m_Lw_law.2.1 204 = .ok (.iconst 1, 1) := by decide +kernel
theorem d_Lw_law_205 : decode m_Lw_law.2.1 205 = .ok (.iadd, 1) := by decide +kernel
theorem d_Lw_law_206 : decode m_Lw_law.2.1 206 = .ok (.iaload, 1) := by decide +kernel
theorem d_Lw_law_207 : decode m_Lw_law.2.1 207 = .ok (.invokevirtual 75, 3) := by decide +kernel
theorem d_Lw_law_210 : decode m_Lw_law.2.1 210 = .ok (.aload_n 2, 1) := by decide +kernel
theorem d_Lw_law_211 : decode m_Lw_law.2.1 211 = .ok (.invokevirtual 66, 3) := by decide +kernel
theorem d_Lw_law_214 : decode m_Lw_law.2.1 214 = .ok (.iload 5, 2) := by decide +kernel
theorem d_Lw_law_216 : decode m_Lw_law.2.1 216 = .ok (.if_icmp .eq 5, 3) := by decide +kernel
theorem d_Lw_law_219 : decode m_Lw_law.2.1 219 = .ok (.iconst 0, 1) := by decide +kernel
theorem d_Lw_law_220 : decode m_Lw_law.2.1 220 = .ok (.ireturn, 1) := by decide +kernel
theorem d_Lw_law_221 : decode m_Lw_law.2.1 221 = .ok (.goto 578, 3) := by decide +kernel
theorem d_Lw_law_224 : decode m_Lw_law.2.1 224 = .ok (.aload_n 1, 1) := by decide +kernel
theorem d_Lw_law_225 : decode m_Lw_law.2.1 225 = .ok (.invokestatic 76, 3) := by decide +kernel
theorem d_Lw_law_228 : decode m_Lw_law.2.1 228 = .ok (.istore 5, 2) := by decide +kernel
theorem d_Lw_law_230 : decode m_Lw_law.2.1 230 = .ok (.aload_n 2, 1) := by decide +kernel
theorem d_Lw_law_231 : decode m_Lw_law.2.1 231 = .ok (.invokevirtual 78, 3) := by decide +kernel
theorem d_Lw_law_234 : decode m_Lw_law.2.1 234 = .ok (.aload_n 2, 1) := by decide +kernel
theorem d_Lw_law_235 : decode m_Lw_law.2.1 235 = .ok (.invokevirtual 66, 3) := by decide +kernel
theorem d_Lw_law_238 : decode m_Lw_law.2.1 238 = .ok (.iload 5, 2) := by decide +kernel
theorem d_Lw_law_240 : decode m_Lw_law.2.1 240 = .ok (.if_icmp .eq 5, 3) := by decide +kernel
theorem d_Lw_law_243 : decode m_Lw_law.2.1 243 = .ok (.iconst 0, 1) := by decide +kernel
theorem d_Lw_law_244 : decode m_Lw_law.2.1 244 = .ok (.ireturn, 1) := by decide +kernel
theorem d_Lw_law_245 : decode m_Lw_law.2.1 245 = .ok (.goto 554, 3) := by decide +kernel
theorem d_Lw_law_248 : decode m_Lw_law.2.1 248 = .ok (.aload_n 1, 1) := by decide +kernel
theorem d_Lw_law_249 : decode m_Lw_law.2.1 249 = .ok (.invokestatic 79, 3) := by decide +kernel
theorem d_Lw_law_252 : decode m_Lw_law.2.1 252 = .ok (.istore 5, 2) := by decide +kernel
theorem d_Lw_law_254 : decode m_Lw_law.2.1 254 = .ok (.aload_n 2, 1) := by decide +kernel
theorem d_Lw_law_255 : decode m_Lw_law.2.1 255 = .ok (.invokevirtual 81, 3) := by decide +kernel
theorem d_Lw_law_258 : decode m_Lw_law.2.1 258 = .ok (.aload_n 2, 1) := by decide +kernel
theorem d_Lw_law_259 : decode m_Lw_law.2.1 259 = .ok (.invokevirtual 66, 3) := by decide +kernel
theorem d_Lw_law_262 : decode m_Lw_law.2.1 262 = .ok (.iload 5, 2) := by decide +kernel
theorem d_Lw_law_264 : decode m_Lw_law.2.1 264 = .ok (.if_icmp .eq 5, 3) := by decide +kernel
theorem d_Lw_law_267 : decode m_Lw_law.2.1 267 = .ok (.iconst 0, 1) := by decide +kernel
theorem d_Lw_law_268 : decode m_Lw_law.2.1 268 = .ok (.ireturn, 1) := by decide +kernel
theorem d_Lw_law_269 : decode m_Lw_law.2.1 269 = .ok (.goto 530, 3) := by decide +kernel
theorem d_Lw_law_272 : decode m_Lw_law.2.1 272 = .ok (.aload_n 1, 1) := by decide +kernel
theorem d_Lw_law_273 : decode m_Lw_law.2.1 273 = .ok (.invokestatic 82, 3) := by decide +kernel
theorem d_Lw_law_276 : decode m_Lw_law.2.1 276 = .ok (.istore 5, 2) := by decide +kernel
theorem d_Lw_law_278 : decode m_Lw_law.2.1 278 = .ok (.aload_n 2, 1) := by decide +kernel
theorem d_Lw_law_279 : decode m_Lw_law.2.1 279 = .ok (.invokevirtual 84, 3) := by decide +kernel
theorem d_Lw_law_282 : decode m_Lw_law.2.1 282 = .ok (.aload_n 2, 1) := by decide +kernel
theorem d_Lw_law_283 : decode m_Lw_law.2.1 283 = .ok (.invokevirtual 66, 3) := by decide +kernel
theorem d_Lw_law_286 : decode m_Lw_law.2.1 286 = .ok (.iload 5, 2) := by decide +kernel
theorem d_Lw_law_288 : decode m_Lw_law.2.1 288 = .ok (.if_icmp .eq 5, 3) := by decide +kernel
theorem d_Lw_law_291 : decode m_Lw_law.2.1 291 = .ok (.iconst 0, 1) := by decide +kernel
theorem d_Lw_law_292 : decode m_Lw_law.2.1 292 = .ok (.ireturn, 1) := by decide +kernel
theorem d_Lw_law_293 : decode m_Lw_law.2.1 293 = .ok (.goto 506, 3) := by decide +kernel
theorem d_Lw_law_296 : decode m_Lw_law.2.1 296 = .ok (.aload_n 1, 1) := by decide +kernel
theorem d_Lw_law_297 : decode m_Lw_law.2.1 297 = .ok (.invokestatic 85, 3) := by decide +kernel
theorem d_Lw_law_300 : decode m_Lw_law.2.1 300 = .ok (.istore 5, 2) := by decide +kernel
theorem d_Lw_law_302 : decode m_Lw_law.2.1 302 = .ok (.aload_n 2, 1) := by decide +kernel
theorem d_Lw_law_303 : decode m_Lw_law.2.1 303 = .ok (.invokevirtual 87, 3) := by decide +kernel
theorem d_Lw_law_306 : decode m_Lw_law.2.1 306 = .ok (.aload_n 2, 1) := by decide +kernel
theorem d_Lw_law_307 : decode m_Lw_law.2.1 307 = .ok (.invokevirtual 66, 3) := by decide +kernel
theorem d_Lw_law_310 : decode m_Lw_law.2.1 310 = .ok (.iload 5, 2) := by decide +kernel
theorem d_Lw_law_312 : decode m_Lw_law.2.1 312 = .ok (.if_icmp .eq 5, 3) := by decide +kernel
theorem d_Lw_law_315 : decode m_Lw_law.2.1 315 = .ok (.iconst 0, 1) := by decide +kernel
theorem d_Lw_law_316 : decode m_Lw_law.2.1 316 = .ok (.ireturn, 1) := by decide +kernel
theorem d_Lw_law_317 : decode m_Lw_law.2.1 317 = .ok (.goto 482, 3) := by decide +kernel
theorem d_Lw_law_320 : decode m_Lw_law.2.1 320 = .ok (.aload_n 1, 1) := by decide +kernel
theorem d_Lw_law_321 : decode m_Lw_law.2.1 321 = .ok (.aload_n 0, 1) := by decide +kernel
theorem d_Lw_law_322 : decode m_Lw_law.2.1 322 = .ok (.iload 4, 2) := by decide +kernel
theorem d_Lw_law_324 : decode m_Lw_law.2.1 324 = .ok (.iconst 1, 1) := by decide +kernel
theorem d_Lw_law_325 : decode m_Lw_law.2.1 325 = .ok (.iadd, 1) := by decide +kernel
theorem d_Lw_law_326 : decode m_Lw_law.2.1 326 = .ok (.iaload, 1) := by decide +kernel
theorem d_Lw_law_327 : decode m_Lw_law.2.1 327 = .ok (.ifCond .eq 7, 3) := by decide +kernel
theorem d_Lw_law_330 : decode m_Lw_law.2.1 330 = .ok (.iconst 1, 1) := by decide +kernel
theorem d_Lw_law_331 : decode m_Lw_law.2.1 331 = .ok (.goto 4, 3) := by decide +kernel
theorem d_Lw_law_334 : decode m_Lw_law.2.1 334 = .ok (.iconst 0, 1) := by decide +kernel
theorem d_Lw_law_335 : decode m_Lw_law.2.1 335 = .ok (.aload_n 3, 1) := by decide +kernel
theorem d_Lw_law_336 : decode m_Lw_law.2.1 336 = .ok (.invokestatic 88, 3) := by decide +kernel
theorem d_Lw_law_339 : decode m_Lw_law.2.1 339 = .ok (.istore 5, 2) := by decide +kernel
theorem d_Lw_law_341 : decode m_Lw_law.2.1 341 = .ok (.aload_n 2, 1) := by decide +kernel
theorem d_Lw_law_342 : decode m_Lw_law.2.1 342 = .ok (.aload_n 0, 1) := by decide +kernel
theorem d_Lw_law_343 : decode m_Lw_law.2.1 343 = .ok (.iload 4, 2) := by decide +kernel
theorem d_Lw_law_345 : decode m_Lw_law.2.1 345 = .ok (.iconst 1, 1) := by decide +kernel
theorem d_Lw_law_346 : decode m_Lw_law.2.1 346 = .ok (.iadd, 1) := by decide +kernel
theorem d_Lw_law_347 : decode m_Lw_law.2.1 347 = .ok (.iaload, 1) := by decide +kernel
theorem d_Lw_law_348 : decode m_Lw_law.2.1 348 = .ok (.ifCond .eq 7, 3) := by decide +kernel
theorem d_Lw_law_351 : decode m_Lw_law.2.1 351 = .ok (.iconst 1, 1) := by decide +kernel
theorem d_Lw_law_352 : decode m_Lw_law.2.1 352 = .ok (.goto 4, 3) := by decide +kernel
theorem d_Lw_law_355 : decode m_Lw_law.2.1 355 = .ok (.iconst 0, 1) := by decide +kernel
theorem d_Lw_law_356 : decode m_Lw_law.2.1 356 = .ok (.invokevirtual 91, 3) := by decide +kernel
theorem d_Lw_law_359 : decode m_Lw_law.2.1 359 = .ok (.istore 6, 2) := by decide +kernel
theorem d_Lw_law_361 : decode m_Lw_law.2.1 361 = .ok (.aload_n 2, 1) := by decide +kernel
theorem d_Lw_law_362 : decode m_Lw_law.2.1 362 = .ok (.invokevirtual 66, 3) := by decide +kernel
theorem d_Lw_law_365 : decode m_Lw_law.2.1 365 = .ok (.iload 5, 2) := by decide +kernel
theorem d_Lw_law_367 : decode m_Lw_law.2.1 367 = .ok (.if_icmp .eq 5, 3) := by decide +kernel
theorem d_Lw_law_370 : decode m_Lw_law.2.1 370 = .ok (.iconst 0, 1) := by decide +kernel
theorem d_Lw_law_371 : decode m_Lw_law.2.1 371 = .ok (.ireturn, 1) := by decide +kernel
theorem d_Lw_law_372 : decode m_Lw_law.2.1 372 = .ok (.iload 5, 2) := by decide +kernel
theorem d_Lw_law_374 : decode m_Lw_law.2.1 374 = .ok (.ifCond .ne 15, 3) := by decide +kernel
theorem d_Lw_law_377 : decode m_Lw_law.2.1 377 = .ok (.aload_n 3, 1) := by decide +kernel
theorem d_Lw_law_378 : decode m_Lw_law.2.1 378 = .ok (.iconst 0, 1) := by decide +kernel
theorem d_Lw_law_379 : decode m_Lw_law.2.1 379 = .ok (.laload, 1) := by decide +kernel
theorem d_Lw_law_380 : decode m_Lw_law.2.1 380 = .ok (.iload 6, 2) := by decide +kernel
theorem d_Lw_law_382 : decode m_Lw_law.2.1 382 = .ok (.i2l, 1) := by decide +kernel
theorem d_Lw_law_383 : decode m_Lw_law.2.1 383 = .ok (.lcmp, 1) := by decide +kernel
theorem d_Lw_law_384 : decode m_Lw_law.2.1 384 = .ok (.ifCond .eq 5, 3) := by decide +kernel
theorem d_Lw_law_387 : decode m_Lw_law.2.1 387 = .ok (.iconst 0, 1) := by decide +kernel
theorem d_Lw_law_388 : decode m_Lw_law.2.1 388 = .ok (.ireturn, 1) := by decide +kernel
theorem d_Lw_law_389 : decode m_Lw_law.2.1 389 = .ok (.goto 410, 3) := by decide +kernel
theorem d_Lw_law_392 : decode m_Lw_law.2.1 392 = .ok (.aload_n 1, 1) := by decide +kernel
theorem d_Lw_law_393 : decode m_Lw_law.2.1 393 = .ok (.aload_n 3, 1) := by decide +kernel
theorem d_Lw_law_394 : decode m_Lw_law.2.1 394 = .ok (.invokestatic 92, 3) := by decide +kernel
theorem d_Lw_law_397 : decode m_Lw_law.2.1 397 = .ok (.istore 5, 2) := by decide +kernel
theorem d_Lw_law_399 : decode m_Lw_law.2.1 399 = .ok (.aload_n 2, 1) := by decide +kernel
theorem d_Lw_law_400 : decode m_Lw_law.2.1 400 = .ok (.invokevirtual 95, 3) := by decide +kernel
theorem d_Lw_law_403 : decode m_Lw_law.2.1 403 = .ok (.istore 6, 2) := by decide +kernel
theorem d_Lw_law_405 : decode m_Lw_law.2.1 405 = .ok (.aload_n 2, 1) := by decide +kernel
theorem d_Lw_law_406 : decode m_Lw_law.2.1 406 = .ok (.invokevirtual 66, 3) := by decide +kernel
theorem d_Lw_law_409 : decode m_Lw_law.2.1 409 = .ok (.iload 5, 2) := by decide +kernel
theorem d_Lw_law_411 : decode m_Lw_law.2.1 411 = .ok (.if_icmp .eq 5, 3) := by decide +kernel
theorem d_Lw_law_414 : decode m_Lw_law.2.1 414 = .ok (.iconst 0, 1) := by decide +kernel
theorem d_Lw_law_415 : decode m_Lw_law.2.1 415 = .ok (.ireturn, 1) := by decide +kernel
theorem d_Lw_law_416 : decode m_Lw_law.2.1 416 = .ok (.iload 5, 2) := by decide +kernel
theorem d_Lw_law_418 : decode m_Lw_law.2.1 418 = .ok (.ifCond .ne 15, 3) := by decide +kernel
theorem d_Lw_law_421 : decode m_Lw_law.2.1 421 = .ok (.aload_n 3, 1) := by decide +kernel
theorem d_Lw_law_422 : decode m_Lw_law.2.1 422 = .ok (.iconst 0, 1) := by decide +kernel
theorem d_Lw_law_423 : decode m_Lw_law.2.1 423 = .ok (.laload, 1) := by decide +kernel
theorem d_Lw_law_424 : decode m_Lw_law.2.1 424 = .ok (.iload 6, 2) := by decide +kernel
theorem d_Lw_law_426 : decode m_Lw_law.2.1 426 = .ok (.i2l, 1) := by decide +kernel
theorem d_Lw_law_427 : decode m_Lw_law.2.1 427 = .ok (.lcmp, 1) := by decide +kernel
theorem d_Lw_law_428 : decode m_Lw_law.2.1 428 = .ok (.ifCond .eq 5, 3) := by decide +kernel
theorem d_Lw_law_431 : decode m_Lw_law.2.1 431 = .ok (.iconst 0, 1) := by decide +kernel
theorem d_Lw_law_432 : decode m_Lw_law.2.1 432 = .ok (.ireturn, 1) := by decide +kernel
theorem d_Lw_law_433 : decode m_Lw_law.2.1 433 = .ok (.goto 366, 3) := by decide +kernel
theorem d_Lw_law_436 : decode m_Lw_law.2.1 436 = .ok (.aload_n 1, 1) := by decide +kernel
theorem d_Lw_law_437 : decode m_Lw_law.2.1 437 = .ok (.aload_n 3, 1) := by decide +kernel
theorem d_Lw_law_438 : decode m_Lw_law.2.1 438 = .ok (.invokestatic 96, 3) := by decide +kernel
theorem d_Lw_law_441 : decode m_Lw_law.2.1 441 = .ok (.istore 5, 2) := by decide +kernel
theorem d_Lw_law_443 : decode m_Lw_law.2.1 443 = .ok (.aload_n 2, 1) := by decide +kernel
theorem d_Lw_law_444 : decode m_Lw_law.2.1 444 = .ok (.invokevirtual 98, 3) := by decide +kernel
theorem d_Lw_law_447 : decode m_Lw_law.2.1 447 = .ok (.istore 6, 2) := by decide +kernel
theorem d_Lw_law_449 : decode m_Lw_law.2.1 449 = .ok (.aload_n 2, 1) := by decide +kernel
theorem d_Lw_law_450 : decode m_Lw_law.2.1 450 = .ok (.invokevirtual 66, 3) := by decide +kernel
theorem d_Lw_law_453 : decode m_Lw_law.2.1 453 = .ok (.iload 5, 2) := by decide +kernel
theorem d_Lw_law_455 : decode m_Lw_law.2.1 455 = .ok (.if_icmp .eq 5, 3) := by decide +kernel
theorem d_Lw_law_458 : decode m_Lw_law.2.1 458 = .ok (.iconst 0, 1) := by decide +kernel
theorem d_Lw_law_459 : decode m_Lw_law.2.1 459 = .ok (.ireturn, 1) := by decide +kernel
theorem d_Lw_law_460 : decode m_Lw_law.2.1 460 = .ok (.iload 5, 2) := by decide +kernel
theorem d_Lw_law_462 : decode m_Lw_law.2.1 462 = .ok (.ifCond .ne 15, 3) := by decide +kernel
theorem d_Lw_law_465 : decode m_Lw_law.2.1 465 = .ok (.aload_n 3, 1) := by decide +kernel
theorem d_Lw_law_466 : decode m_Lw_law.2.1 466 = .ok (.iconst 0, 1) := by decide +kernel
theorem d_Lw_law_467 : decode m_Lw_law.2.1 467 = .ok (.laload, 1) := by decide +kernel
theorem d_Lw_law_468 : decode m_Lw_law.2.1 468 = .ok (.iload 6, 2) := by decide +kernel
theorem d_Lw_law_470 : decode m_Lw_law.2.1 470 = .ok (.i2l, 1) := by decide +kernel
theorem d_Lw_law_471 : decode m_Lw_law.2.1 471 = .ok (.lcmp, 1) := by decide +kernel
theorem d_Lw_law_472 : decode m_Lw_law.2.1 472 = .ok (.ifCond .eq 5, 3) := by decide +kernel
theorem d_Lw_law_475 : decode m_Lw_law.2.1 475 = .ok (.iconst 0, 1) := by decide +kernel
theorem d_Lw_law_476 : decode m_Lw_law.2.1 476 = .ok (.ireturn, 1) := by decide +kernel
theorem d_Lw_law_477 : decode m_Lw_law.2.1 477 = .ok (.goto 322, 3) := by decide +kernel
theorem d_Lw_law_480 : decode m_Lw_law.2.1 480 = .ok (.aload_n 1, 1) := by decide +kernel
theorem d_Lw_law_481 : decode m_Lw_law.2.1 481 = .ok (.aload_n 3, 1) := by decide +kernel
theorem d_Lw_law_482 : decode m_Lw_law.2.1 482 = .ok (.invokestatic 99, 3) := by decide +kernel
theorem d_Lw_law_485 : decode m_Lw_law.2.1 485 = .ok (.istore 5, 2) := by decide +kernel
theorem d_Lw_law_487 : decode m_Lw_law.2.1 487 = .ok (.aload_n 2, 1) := by decide +kernel
theorem d_Lw_law_488 : decode m_Lw_law.2.1 488 = .ok (.invokevirtual 101, 3) := by decide +kernel
theorem d_Lw_law_491 : decode m_Lw_law.2.1 491 = .ok (.istore 6, 2) := by decide +kernel
theorem d_Lw_law_493 : decode m_Lw_law.2.1 493 = .ok (.aload_n 2, 1) := by decide +kernel
theorem d_Lw_law_494 : decode m_Lw_law.2.1 494 = .ok (.invokevirtual 66, 3) := by decide +kernel
theorem d_Lw_law_497 : decode m_Lw_law.2.1 497 = .ok (.iload 5, 2) := by decide +kernel
theorem d_Lw_law_499 : decode m_Lw_law.2.1 499 = .ok (.if_icmp .eq 5, 3) := by decide +kernel
theorem d_Lw_law_502 : decode m_Lw_law.2.1 502 = .ok (.iconst 0, 1) := by decide +kernel
theorem d_Lw_law_503 : decode m_Lw_law.2.1 503 = .ok (.ireturn, 1) := by decide +kernel
theorem d_Lw_law_504 : decode m_Lw_law.2.1 504 = .ok (.iload 5, 2) := by decide +kernel
theorem d_Lw_law_506 : decode m_Lw_law.2.1 506 = .ok (.ifCond .ne 22, 3) := by decide +kernel
theorem d_Lw_law_509 : decode m_Lw_law.2.1 509 = .ok (.aload_n 3, 1) := by decide +kernel
theorem d_Lw_law_510 : decode m_Lw_law.2.1 510 = .ok (.iconst 0, 1) := by decide +kernel
theorem d_Lw_law_511 : decode m_Lw_law.2.1 511 = .ok (.laload, 1) := by decide +kernel
theorem d_Lw_law_512 : decode m_Lw_law.2.1 512 = .ok (.iload 6, 2) := by decide +kernel
theorem d_Lw_law_514 : decode m_Lw_law.2.1 514 = .ok (.ifCond .eq 7, 3) := by decide +kernel
theorem d_Lw_law_517 : decode m_Lw_law.2.1 517 = .ok (.lconst 1, 1) := by decide +kernel
theorem d_Lw_law_518 : decode m_Lw_law.2.1 518 = .ok (.goto 4, 3) := by decide +kernel
theorem d_Lw_law_521 : decode m_Lw_law.2.1 521 = .ok (.lconst 0, 1) := by decide +kernel
theorem d_Lw_law_522 : decode m_Lw_law.2.1 522 = .ok (.lcmp, 1) := by decide +kernel
theorem d_Lw_law_523 : decode m_Lw_law.2.1 523 = .ok (.ifCond .eq 5, 3) := by decide +kernel
theorem d_Lw_law_526 : decode m_Lw_law.2.1 526 = .ok (.iconst 0, 1) := by decide +kernel
theorem d_Lw_law_527 : decode m_Lw_law.2.1 527 = .ok (.ireturn, 1) := by decide +kernel
theorem d_Lw_law_528 : decode m_Lw_law.2.1 528 = .ok (.goto 271, 3) := by decide +kernel
theorem d_Lw_law_531 : decode m_Lw_law.2.1 531 = .ok (.aload_n 1, 1) := by decide +kernel
theorem d_Lw_law_532 : decode m_Lw_law.2.1 532 = .ok (.invokevirtual 102, 3) := by decide +kernel
theorem d_Lw_law_535 : decode m_Lw_law.2.1 535 = .ok (.aload_n 2, 1) := by decide +kernel
theorem d_Lw_law_536 : decode m_Lw_law.2.1 536 = .ok (.invokevirtual 105, 3) := by decide +kernel
theorem d_Lw_law_539 : decode m_Lw_law.2.1 539 = .ok (.if_icmp .eq 260, 3) := by decide +kernel
theorem d_Lw_law_542 : decode m_Lw_law.2.1 542 = .ok (.iconst 0, 1) := by decide +kernel
theorem d_Lw_law_543 : decode m_Lw_law.2.1 543 = .ok (.ireturn, 1) := by decide +kernel
theorem d_Lw_law_544 : decode m_Lw_law.2.1 544 = .ok (.aload_n 1, 1) := by decide +kernel
theorem d_Lw_law_545 : decode m_Lw_law.2.1 545 = .ok (.invokevirtual 106, 3) := by decide +kernel
theorem d_Lw_law_548 : decode m_Lw_law.2.1 548 = .ok (.aload_n 2, 1) := by decide +kernel
theorem d_Lw_law_549 : decode m_Lw_law.2.1 549 = .ok (.invokevirtual 109, 3) := by decide +kernel
theorem d_Lw_law_552 : decode m_Lw_law.2.1 552 = .ok (.if_icmp .eq 247, 3) := by decide +kernel
theorem d_Lw_law_555 : decode m_Lw_law.2.1 555 = .ok (.iconst 0, 1) := by decide +kernel
theorem d_Lw_law_556 : decode m_Lw_law.2.1 556 = .ok (.ireturn, 1) := by decide +kernel
theorem d_Lw_law_557 : decode m_Lw_law.2.1 557 = .ok (.aload_n 1, 1) := by decide +kernel
theorem d_Lw_law_558 : decode m_Lw_law.2.1 558 = .ok (.invokevirtual 110, 3) := by decide +kernel
theorem d_Lw_law_561 : decode m_Lw_law.2.1 561 = .ok (.aload_n 2, 1) := by decide +kernel
theorem d_Lw_law_562 : decode m_Lw_law.2.1 562 = .ok (.invokevirtual 113, 3) := by decide +kernel
theorem d_Lw_law_565 : decode m_Lw_law.2.1 565 = .ok (.if_icmp .eq 234, 3) := by decide +kernel
theorem d_Lw_law_568 : decode m_Lw_law.2.1 568 = .ok (.iconst 0, 1) := by decide +kernel
theorem d_Lw_law_569 : decode m_Lw_law.2.1 569 = .ok (.ireturn, 1) := by decide +kernel
theorem d_Lw_law_570 : decode m_Lw_law.2.1 570 = .ok (.aload_n 1, 1) := by decide +kernel
theorem d_Lw_law_571 : decode m_Lw_law.2.1 571 = .ok (.aload_n 0, 1) := by decide +kernel
theorem d_Lw_law_572 : decode m_Lw_law.2.1 572 = .ok (.iload 4, 2) := by decide +kernel
theorem d_Lw_law_574 : decode m_Lw_law.2.1 574 = .ok (.iconst 1, 1) := by decide +kernel
theorem d_Lw_law_575 : decode m_Lw_law.2.1 575 = .ok (.iadd, 1) := by decide +kernel
theorem d_Lw_law_576 : decode m_Lw_law.2.1 576 = .ok (.iaload, 1) := by decide +kernel
theorem d_Lw_law_577 : decode m_Lw_law.2.1 577 = .ok (.aload_n 0, 1) := by decide +kernel
theorem d_Lw_law_578 : decode m_Lw_law.2.1 578 = .ok (.iload 4, 2) := by decide +kernel
theorem d_Lw_law_580 : decode m_Lw_law.2.1 580 = .ok (.iconst 2, 1) := by decide +kernel
theorem d_Lw_law_581 : decode m_Lw_law.2.1 581 = .ok (.iadd, 1) := by decide +kernel
theorem d_Lw_law_582 : decode m_Lw_law.2.1 582 = .ok (.iaload, 1) := by decide +kernel
theorem d_Lw_law_583 : decode m_Lw_law.2.1 583 = .ok (.ifCond .eq 7, 3) := by decide +kernel
theorem d_Lw_law_586 : decode m_Lw_law.2.1 586 = .ok (.iconst 1, 1) := by decide +kernel
theorem d_Lw_law_587 : decode m_Lw_law.2.1 587 = .ok (.goto 4, 3) := by decide +kernel
theorem d_Lw_law_590 : decode m_Lw_law.2.1 590 = .ok (.iconst 0, 1) := by decide +kernel
theorem d_Lw_law_591 : decode m_Lw_law.2.1 591 = .ok (.aload_n 0, 1) := by decide +kernel
theorem d_Lw_law_592 : decode m_Lw_law.2.1 592 = .ok (.iload 4, 2) := by decide +kernel
theorem d_Lw_law_594 : decode m_Lw_law.2.1 594 = .ok (.iconst 3, 1) := by decide +kernel
theorem d_Lw_law_595 : decode m_Lw_law.2.1 595 = .ok (.iadd, 1) := by decide +kernel
theorem d_Lw_law_596 : decode m_Lw_law.2.1 596 = .ok (.iaload, 1) := by decide +kernel
theorem d_Lw_law_597 : decode m_Lw_law.2.1 597 = .ok (.invokevirtual 114, 3) := by decide +kernel
theorem d_Lw_law_600 : decode m_Lw_law.2.1 600 = .ok (.aload_n 2, 1) := by decide +kernel
theorem d_Lw_law_601 : decode m_Lw_law.2.1 601 = .ok (.aload_n 0, 1) := by decide +kernel
theorem d_Lw_law_602 : decode m_Lw_law.2.1 602 = .ok (.iload 4, 2) := by decide +kernel
theorem d_Lw_law_604 : decode m_Lw_law.2.1 604 = .ok (.iconst 1, 1) := by decide +kernel
theorem d_Lw_law_605 : decode m_Lw_law.2.1 605 = .ok (.iadd, 1) := by decide +kernel
theorem d_Lw_law_606 : decode m_Lw_law.2.1 606 = .ok (.iaload, 1) := by decide +kernel
theorem d_Lw_law_607 : decode m_Lw_law.2.1 607 = .ok (.aload_n 0, 1) := by decide +kernel
theorem d_Lw_law_608 : decode m_Lw_law.2.1 608 = .ok (.iload 4, 2) := by decide +kernel
theorem d_Lw_law_610 : decode m_Lw_law.2.1 610 = .ok (.iconst 2, 1) := by decide +kernel
theorem d_Lw_law_611 : decode m_Lw_law.2.1 611 = .ok (.iadd, 1) := by decide +kernel
theorem d_Lw_law_612 : decode m_Lw_law.2.1 612 = .ok (.iaload, 1) := by decide +kernel
theorem d_Lw_law_613 : decode m_Lw_law.2.1 613 = .ok (.ifCond .eq 7, 3) := by decide +kernel
theorem d_Lw_law_616 : decode m_Lw_law.2.1 616 = .ok (.iconst 1, 1) := by decide +kernel
theorem d_Lw_law_617 : decode m_Lw_law.2.1 617 = .ok (.goto 4, 3) := by decide +kernel
theorem d_Lw_law_620 : decode m_Lw_law.2.1 620 = .ok (.iconst 0, 1) := by decide +kernel
theorem d_Lw_law_621 : decode m_Lw_law.2.1 621 = .ok (.aload_n 0, 1) := by decide +kernel
theorem d_Lw_law_622 : decode m_Lw_law.2.1 622 = .ok (.iload 4, 2) := by decide +kernel
theorem d_Lw_law_624 : decode m_Lw_law.2.1 624 = .ok (.iconst 3, 1) := by decide +kernel
theorem d_Lw_law_625 : decode m_Lw_law.2.1 625 = .ok (.iadd, 1) := by decide +kernel
theorem d_Lw_law_626 : decode m_Lw_law.2.1 626 = .ok (.iaload, 1) := by decide +kernel
theorem d_Lw_law_627 : decode m_Lw_law.2.1 627 = .ok (.invokevirtual 118, 3) := by decide +kernel
theorem d_Lw_law_630 : decode m_Lw_law.2.1 630 = .ok (.if_icmp .eq 169, 3) := by decide +kernel
theorem d_Lw_law_633 : decode m_Lw_law.2.1 633 = .ok (.iconst 0, 1) := by decide +kernel
theorem d_Lw_law_634 : decode m_Lw_law.2.1 634 = .ok (.ireturn, 1) := by decide +kernel
theorem d_Lw_law_635 : decode m_Lw_law.2.1 635 = .ok (.aload_n 1, 1) := by decide +kernel
theorem d_Lw_law_636 : decode m_Lw_law.2.1 636 = .ok (.aload_n 0, 1) := by decide +kernel
theorem d_Lw_law_637 : decode m_Lw_law.2.1 637 = .ok (.iload 4, 2) := by decide +kernel
theorem d_Lw_law_639 : decode m_Lw_law.2.1 639 = .ok (.iconst 1, 1) := by decide +kernel
theorem d_Lw_law_640 : decode m_Lw_law.2.1 640 = .ok (.iadd, 1) := by decide +kernel
theorem d_Lw_law_641 : decode m_Lw_law.2.1 641 = .ok (.iaload, 1) := by decide +kernel
theorem d_Lw_law_642 : decode m_Lw_law.2.1 642 = .ok (.invokevirtual 119, 3) := by decide +kernel
theorem d_Lw_law_645 : decode m_Lw_law.2.1 645 = .ok (.aload_n 2, 1) := by decide +kernel
theorem d_Lw_law_646 : decode m_Lw_law.2.1 646 = .ok (.aload_n 0, 1) := by decide +kernel
theorem d_Lw_law_647 : decode m_Lw_law.2.1 647 = .ok (.iload 4, 2) := by decide +kernel
theorem d_Lw_law_649 : decode m_Lw_law.2.1 649 = .ok (.iconst 1, 1) := by decide +kernel
theorem d_Lw_law_650 : decode m_Lw_law.2.1 650 = .ok (.iadd, 1) := by decide +kernel
theorem d_Lw_law_651 : decode m_Lw_law.2.1 651 = .ok (.iaload, 1) := by decide +kernel
theorem d_Lw_law_652 : decode m_Lw_law.2.1 652 = .ok (.invokevirtual 123, 3) := by decide +kernel
theorem d_Lw_law_655 : decode m_Lw_law.2.1 655 = .ok (.if_icmp .eq 144, 3) := by decide +kernel
theorem d_Lw_law_658 : decode m_Lw_law.2.1 658 = .ok (.iconst 0, 1) := by decide +kernel
theorem d_Lw_law_659 : decode m_Lw_law.2.1 659 = .ok (.ireturn, 1) := by decide +kernel
theorem d_Lw_law_660 : decode m_Lw_law.2.1 660 = .ok (.aload_n 1, 1) := by decide +kernel
theorem d_Lw_law_661 : decode m_Lw_law.2.1 661 = .ok (.aload_n 0, 1) := by decide +kernel
theorem d_Lw_law_662 : decode m_Lw_law.2.1 662 = .ok (.iload 4, 2) := by decide +kernel
theorem d_Lw_law_664 : decode m_Lw_law.2.1 664 = .ok (.iconst 1, 1) := by decide +kernel
theorem d_Lw_law_665 : decode m_Lw_law.2.1 665 = .ok (.iadd, 1) := by decide +kernel
theorem d_Lw_law_666 : decode m_Lw_law.2.1 666 = .ok (.iaload, 1) := by decide +kernel
theorem d_Lw_law_667 : decode m_Lw_law.2.1 667 = .ok (.aload_n 0, 1) := by decide +kernel
theorem d_Lw_law_668 : decode m_Lw_law.2.1 668 = .ok (.iload 4, 2) := by decide +kernel
theorem d_Lw_law_670 : decode m_Lw_law.2.1 670 = .ok (.iconst 2, 1) := by decide +kernel
theorem d_Lw_law_671 : decode m_Lw_law.2.1 671 = .ok (.iadd, 1) := by decide +kernel
theorem d_Lw_law_672 : decode m_Lw_law.2.1 672 = .ok (.iaload, 1) := by decide +kernel
theorem d_Lw_law_673 : decode m_Lw_law.2.1 673 = .ok (.invokevirtual 124, 3) := by decide +kernel
theorem d_Lw_law_676 : decode m_Lw_law.2.1 676 = .ok (.aload_n 2, 1) := by decide +kernel
theorem d_Lw_law_677 : decode m_Lw_law.2.1 677 = .ok (.aload_n 0, 1) := by decide +kernel
theorem d_Lw_law_678 : decode m_Lw_law.2.1 678 = .ok (.iload 4, 2) := by decide +kernel
theorem d_Lw_law_680 : decode m_Lw_law.2.1 680 = .ok (.iconst 1, 1) := by decide +kernel
theorem d_Lw_law_681 : decode m_Lw_law.2.1 681 = .ok (.iadd, 1) := by decide +kernel
theorem d_Lw_law_682 : decode m_Lw_law.2.1 682 = .ok (.iaload, 1) := by decide +kernel
theorem d_Lw_law_683 : decode m_Lw_law.2.1 683 = .ok (.aload_n 0, 1) := by decide +kernel
theorem d_Lw_law_684 : decode m_Lw_law.2.1 684 = .ok (.iload 4, 2) := by decide +kernel
theorem d_Lw_law_686 : decode m_Lw_law.2.1 686 = .ok (.iconst 2, 1) := by decide +kernel
theorem d_Lw_law_687 : decode m_Lw_law.2.1 687 = .ok (.iadd, 1) := by decide +kernel
theorem d_Lw_law_688 : decode m_Lw_law.2.1 688 = .ok (.iaload, 1) := by decide +kernel
theorem d_Lw_law_689 : decode m_Lw_law.2.1 689 = .ok (.invokevirtual 128, 3) := by decide +kernel
theorem d_Lw_law_692 : decode m_Lw_law.2.1 692 = .ok (.if_icmp .eq 107, 3) := by decide +kernel
theorem d_Lw_law_695 : decode m_Lw_law.2.1 695 = .ok (.iconst 0, 1) := by decide +kernel
theorem d_Lw_law_696 : decode m_Lw_law.2.1 696 = .ok (.ireturn, 1) := by decide +kernel
theorem d_Lw_law_697 : decode m_Lw_law.2.1 697 = .ok (.aload_n 1, 1) := by decide +kernel
theorem d_Lw_law_698 : decode m_Lw_law.2.1 698 = .ok (.aload_n 0, 1) := by decide +kernel
theorem d_Lw_law_699 : decode m_Lw_law.2.1 699 = .ok (.iload 4, 2) := by decide +kernel
theorem d_Lw_law_701 : decode m_Lw_law.2.1 701 = .ok (.iconst 1, 1) := by decide +kernel
theorem d_Lw_law_702 : decode m_Lw_law.2.1 702 = .ok (.iadd, 1) := by decide +kernel
theorem d_Lw_law_703 : decode m_Lw_law.2.1 703 = .ok (.iaload, 1) := by decide +kernel
theorem d_Lw_law_704 : decode m_Lw_law.2.1 704 = .ok (.aload_n 0, 1) := by decide +kernel
theorem d_Lw_law_705 : decode m_Lw_law.2.1 705 = .ok (.iload 4, 2) := by decide +kernel
theorem d_Lw_law_707 : decode m_Lw_law.2.1 707 = .ok (.iconst 2, 1) := by decide +kernel
theorem d_Lw_law_708 : decode m_Lw_law.2.1 708 = .ok (.iadd, 1) := by decide +kernel
theorem d_Lw_law_709 : decode m_Lw_law.2.1 709 = .ok (.iaload, 1) := by decide +kernel
theorem d_Lw_law_710 : decode m_Lw_law.2.1 710 = .ok (.invokevirtual 129, 3) := by decide +kernel
theorem d_Lw_law_713 : decode m_Lw_law.2.1 713 = .ok (.aload_n 2, 1) := by decide +kernel
theorem d_Lw_law_714 : decode m_Lw_law.2.1 714 = .ok (.aload_n 0, 1) := by decide +kernel
theorem d_Lw_law_715 : decode m_Lw_law.2.1 715 = .ok (.iload 4, 2) := by decide +kernel
theorem d_Lw_law_717 : decode m_Lw_law.2.1 717 = .ok (.iconst 1, 1) := by decide +kernel
theorem d_Lw_law_718 : decode m_Lw_law.2.1 718 = .ok (.iadd, 1) := by decide +kernel
theorem d_Lw_law_719 : decode m_Lw_law.2.1 719 = .ok (.iaload, 1) := by decide +kernel
theorem d_Lw_law_720 : decode m_Lw_law.2.1 720 = .ok (.aload_n 0, 1) := by decide +kernel
theorem d_Lw_law_721 : decode m_Lw_law.2.1 721 = .ok (.iload 4, 2) := by decide +kernel
theorem d_Lw_law_723 : decode m_Lw_law.2.1 723 = .ok (.iconst 2, 1) := by decide +kernel
theorem d_Lw_law_724 : decode m_Lw_law.2.1 724 = .ok (.iadd, 1) := by decide +kernel
theorem d_Lw_law_725 : decode m_Lw_law.2.1 725 = .ok (.iaload, 1) := by decide +kernel
theorem d_Lw_law_726 : decode m_Lw_law.2.1 726 = .ok (.invokevirtual 132, 3) := by decide +kernel
theorem d_Lw_law_729 : decode m_Lw_law.2.1 729 = .ok (.if_icmp .eq 70, 3) := by decide +kernel
theorem d_Lw_law_732 : decode m_Lw_law.2.1 732 = .ok (.iconst 0, 1) := by decide +kernel
theorem d_Lw_law_733 : decode m_Lw_law.2.1 733 = .ok (.ireturn, 1) := by decide +kernel
theorem d_Lw_law_734 : decode m_Lw_law.2.1 734 = .ok (.aload_n 1, 1) := by decide +kernel
theorem d_Lw_law_735 : decode m_Lw_law.2.1 735 = .ok (.aload_n 0, 1) := by decide +kernel
theorem d_Lw_law_736 : decode m_Lw_law.2.1 736 = .ok (.iload 4, 2) := by decide +kernel
theorem d_Lw_law_738 : decode m_Lw_law.2.1 738 = .ok (.iconst 1, 1) := by decide +kernel
theorem d_Lw_law_739 : decode m_Lw_law.2.1 739 = .ok (.iadd, 1) := by decide +kernel
theorem d_Lw_law_740 : decode m_Lw_law.2.1 740 = .ok (.iaload, 1) := by decide +kernel
theorem d_Lw_law_741 : decode m_Lw_law.2.1 741 = .ok (.aload_n 0, 1) := by decide +kernel
theorem d_Lw_law_742 : decode m_Lw_law.2.1 742 = .ok (.iload 4, 2) := by decide +kernel
theorem d_Lw_law_744 : decode m_Lw_law.2.1 744 = .ok (.iconst 2, 1) := by decide +kernel
theorem d_Lw_law_745 : decode m_Lw_law.2.1 745 = .ok (.iadd, 1) := by decide +kernel
theorem d_Lw_law_746 : decode m_Lw_law.2.1 746 = .ok (.iaload, 1) := by decide +kernel
theorem d_Lw_law_747 : decode m_Lw_law.2.1 747 = .ok (.ifCond .eq 7, 3) := by decide +kernel
theorem d_Lw_law_750 : decode m_Lw_law.2.1 750 = .ok (.iconst 1, 1) := by decide +kernel
theorem d_Lw_law_751 : decode m_Lw_law.2.1 751 = .ok (.goto 4, 3) := by decide +kernel
theorem d_Lw_law_754 : decode m_Lw_law.2.1 754 = .ok (.iconst 0, 1) := by decide +kernel
theorem d_Lw_law_755 : decode m_Lw_law.2.1 755 = .ok (.aload_n 0, 1) := by decide +kernel
theorem d_Lw_law_756 : decode m_Lw_law.2.1 756 = .ok (.iload 4, 2) := by decide +kernel
theorem d_Lw_law_758 : decode m_Lw_law.2.1 758 = .ok (.iconst 3, 1) := by decide +kernel
theorem d_Lw_law_759 : decode m_Lw_law.2.1 759 = .ok (.iadd, 1) := by decide +kernel
theorem d_Lw_law_760 : decode m_Lw_law.2.1 760 = .ok (.iaload, 1) := by decide +kernel
theorem d_Lw_law_761 : decode m_Lw_law.2.1 761 = .ok (.invokevirtual 133, 3) := by decide +kernel
theorem d_Lw_law_764 : decode m_Lw_law.2.1 764 = .ok (.aload_n 2, 1) := by decide +kernel
theorem d_Lw_law_765 : decode m_Lw_law.2.1 765 = .ok (.aload_n 0, 1) := by decide +kernel
theorem d_Lw_law_766 : decode m_Lw_law.2.1 766 = .ok (.iload 4, 2) := by decide +kernel
theorem d_Lw_law_768 : decode m_Lw_law.2.1 768 = .ok (.iconst 1, 1) := by decide +kernel
theorem d_Lw_law_769 : decode m_Lw_law.2.1 769 = .ok (.iadd, 1) := by decide +kernel
theorem d_Lw_law_770 : decode m_Lw_law.2.1 770 = .ok (.iaload, 1) := by decide +kernel
theorem d_Lw_law_771 : decode m_Lw_law.2.1 771 = .ok (.aload_n 0, 1) := by decide +kernel
theorem d_Lw_law_772 : decode m_Lw_law.2.1 772 = .ok (.iload 4, 2) := by decide +kernel
theorem d_Lw_law_774 : decode m_Lw_law.2.1 774 = .ok (.iconst 2, 1) := by decide +kernel
theorem d_Lw_law_775 : decode m_Lw_law.2.1 775 = .ok (.iadd, 1) := by decide +kernel
theorem d_Lw_law_776 : decode m_Lw_law.2.1 776 = .ok (.iaload, 1) := by decide +kernel
theorem d_Lw_law_777 : decode m_Lw_law.2.1 777 = .ok (.ifCond .eq 7, 3) := by decide +kernel
theorem d_Lw_law_780 : decode m_Lw_law.2.1 780 = .ok (.iconst 1, 1) := by decide +kernel
theorem d_Lw_law_781 : decode m_Lw_law.2.1 781 = .ok (.goto 4, 3) := by decide +kernel
theorem d_Lw_law_784 : decode m_Lw_law.2.1 784 = .ok (.iconst 0, 1) := by decide +kernel
theorem d_Lw_law_785 : decode m_Lw_law.2.1 785 = .ok (.aload_n 0, 1) := by decide +kernel
theorem d_Lw_law_786 : decode m_Lw_law.2.1 786 = .ok (.iload 4, 2) := by decide +kernel
theorem d_Lw_law_788 : decode m_Lw_law.2.1 788 = .ok (.iconst 3, 1) := by decide +kernel
theorem d_Lw_law_789 : decode m_Lw_law.2.1 789 = .ok (.iadd, 1) := by decide +kernel
theorem d_Lw_law_790 : decode m_Lw_law.2.1 790 = .ok (.iaload, 1) := by decide +kernel
theorem d_Lw_law_791 : decode m_Lw_law.2.1 791 = .ok (.invokevirtual 136, 3) := by decide +kernel
theorem d_Lw_law_794 : decode m_Lw_law.2.1 794 = .ok (.if_icmp .eq 5, 3) := by decide +kernel
theorem d_Lw_law_797 : decode m_Lw_law.2.1 797 = .ok (.iconst 0, 1) := by decide +kernel
theorem d_Lw_law_798 : decode m_Lw_law.2.1 798 = .ok (.ireturn, 1) := by decide +kernel
theorem d_Lw_law_799 : decode m_Lw_law.2.1 799 = .ok (.iinc 4 4, 3) := by decide +kernel
theorem d_Lw_law_802 : decode m_Lw_law.2.1 802 = .ok (.goto (-779), 3) := by decide +kernel
theorem d_Lw_law_805 : decode m_Lw_law.2.1 805 = .ok (.iconst 1, 1) := by decide +kernel
theorem d_Lw_law_806 : decode m_Lw_law.2.1 806 = .ok (.ireturn, 1) := by decide +kernel
