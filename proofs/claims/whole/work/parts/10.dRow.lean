theorem d_Row_init_0 : decode m_Row_init.2.1 0 = .ok (.aload_n 0, 1) := by decide +kernel
theorem d_Row_init_1 : decode m_Row_init.2.1 1 = .ok (.invokespecial 3, 3) := by decide +kernel
theorem d_Row_init_4 : decode m_Row_init.2.1 4 = .ok (.aload_n 0, 1) := by decide +kernel
theorem d_Row_init_5 : decode m_Row_init.2.1 5 = .ok (.bipush 40, 2) := by decide +kernel
theorem d_Row_init_7 : decode m_Row_init.2.1 7 = .ok (.newarray .int, 2) := by decide +kernel
theorem d_Row_init_9 : decode m_Row_init.2.1 9 = .ok (.putfield 9, 3) := by decide +kernel
theorem d_Row_init_12 : decode m_Row_init.2.1 12 = .ok (.aload_n 0, 1) := by decide +kernel
theorem d_Row_init_13 : decode m_Row_init.2.1 13 = .ok (.iconst 0, 1) := by decide +kernel
theorem d_Row_init_14 : decode m_Row_init.2.1 14 = .ok (.putfield 15, 3) := by decide +kernel
theorem d_Row_init_17 : decode m_Row_init.2.1 17 = .ok (.return_, 1) := by decide +kernel
theorem d_Row_at_0 : decode m_Row_at.2.1 0 = .ok (.iload_n 1, 1) := by decide +kernel
theorem d_Row_at_1 : decode m_Row_at.2.1 1 = .ok (.ifCond .lt 20, 3) := by decide +kernel
theorem d_Row_at_4 : decode m_Row_at.2.1 4 = .ok (.iload_n 1, 1) := by decide +kernel
theorem d_Row_at_5 : decode m_Row_at.2.1 5 = .ok (.aload_n 0, 1) := by decide +kernel
theorem d_Row_at_6 : decode m_Row_at.2.1 6 = .ok (.getfield 15, 3) := by decide +kernel
theorem d_Row_at_9 : decode m_Row_at.2.1 9 = .ok (.if_icmp .ge 12, 3) := by decide +kernel
theorem d_Row_at_12 : decode m_Row_at.2.1 12 = .ok (.aload_n 0, 1) := by decide +kernel
theorem d_Row_at_13 : decode m_Row_at.2.1 13 = .ok (.getfield 9, 3) := by decide +kernel
theorem d_Row_at_16 : decode m_Row_at.2.1 16 = .ok (.iload_n 1, 1) := by decide +kernel
theorem d_Row_at_17 : decode m_Row_at.2.1 17 = .ok (.iaload, 1) := by decide +kernel
theorem d_Row_at_18 : decode m_Row_at.2.1 18 = .ok (.goto 4, 3) := by decide +kernel
theorem d_Row_at_21 : decode m_Row_at.2.1 21 = .ok (.iconst (-1), 1) := by decide +kernel
theorem d_Row_at_22 : decode m_Row_at.2.1 22 = .ok (.ireturn, 1) := by decide +kernel
theorem d_Row_is_0 : decode m_Row_is.2.1 0 = .ok (.aload_n 0, 1) := by decide +kernel
theorem d_Row_is_1 : decode m_Row_is.2.1 1 = .ok (.getfield 15, 3) := by decide +kernel
theorem d_Row_is_4 : decode m_Row_is.2.1 4 = .ok (.iconst 1, 1) := by decide +kernel
theorem d_Row_is_5 : decode m_Row_is.2.1 5 = .ok (.if_icmp .ne 17, 3) := by decide +kernel
theorem d_Row_is_8 : decode m_Row_is.2.1 8 = .ok (.aload_n 0, 1) := by decide +kernel
theorem d_Row_is_9 : decode m_Row_is.2.1 9 = .ok (.getfield 9, 3) := by decide +kernel
theorem d_Row_is_12 : decode m_Row_is.2.1 12 = .ok (.iconst 0, 1) := by decide +kernel
theorem d_Row_is_13 : decode m_Row_is.2.1 13 = .ok (.iaload, 1) := by decide +kernel
theorem d_Row_is_14 : decode m_Row_is.2.1 14 = .ok (.iload_n 1, 1) := by decide +kernel
theorem d_Row_is_15 : decode m_Row_is.2.1 15 = .ok (.if_icmp .ne 7, 3) := by decide +kernel
theorem d_Row_is_18 : decode m_Row_is.2.1 18 = .ok (.iconst 1, 1) := by decide +kernel
theorem d_Row_is_19 : decode m_Row_is.2.1 19 = .ok (.goto 4, 3) := by decide +kernel
theorem d_Row_is_22 : decode m_Row_is.2.1 22 = .ok (.iconst 0, 1) := by decide +kernel
theorem d_Row_is_23 : decode m_Row_is.2.1 23 = .ok (.ireturn, 1) := by decide +kernel
theorem d_Row_clear_0 : decode m_Row_clear.2.1 0 = .ok (.aload_n 0, 1) := by decide +kernel
theorem d_Row_clear_1 : decode m_Row_clear.2.1 1 = .ok (.iconst 0, 1) := by decide +kernel
theorem d_Row_clear_2 : decode m_Row_clear.2.1 2 = .ok (.putfield 15, 3) := by decide +kernel
theorem d_Row_clear_5 : decode m_Row_clear.2.1 5 = .ok (.return_, 1) := by decide +kernel
theorem d_Row_append_0 : decode m_Row_append.2.1 0 = .ok (.aload_n 0, 1) := by decide +kernel
theorem d_Row_append_1 : decode m_Row_append.2.1 1 = .ok (.getfield 15, 3) := by decide +kernel
theorem d_Row_append_4 : decode m_Row_append.2.1 4 = .ok (.bipush 40, 2) := by decide +kernel
theorem d_Row_append_6 : decode m_Row_append.2.1 6 = .ok (.if_icmp .ne 11, 3) := by decide +kernel
theorem d_Row_append_9 : decode m_Row_append.2.1 9 = .ok (.new 19, 3) := by decide +kernel
theorem d_Row_append_12 : decode m_Row_append.2.1 12 = .ok (.dup, 1) := by decide +kernel
theorem d_Row_append_13 : decode m_Row_append.2.1 13 = .ok (.invokespecial 21, 3) := by decide +kernel
theorem d_Row_append_16 : decode m_Row_append.2.1 16 = .ok (.athrow, 1) := by decide +kernel
theorem d_Row_append_17 : decode m_Row_append.2.1 17 = .ok (.aload_n 0, 1) := by decide +kernel
theorem d_Row_append_18 : decode m_Row_append.2.1 18 = .ok (.getfield 9, 3) := by decide +kernel
theorem d_Row_append_21 : decode m_Row_append.2.1 21 = .ok (.aload_n 0, 1) := by decide +kernel
theorem d_Row_append_22 : decode m_Row_append.2.1 22 = .ok (.getfield 15, 3) := by decide +kernel
theorem d_Row_append_25 : decode m_Row_append.2.1 25 = .ok (.iload_n 1, 1) := by decide +kernel
theorem d_Row_append_26 : decode m_Row_append.2.1 26 = .ok (.iastore, 1) := by decide +kernel
theorem d_Row_append_27 : decode m_Row_append.2.1 27 = .ok (.aload_n 0, 1) := by decide +kernel
theorem d_Row_append_28 : decode m_Row_append.2.1 28 = .ok (.dup, 1) := by decide +kernel
theorem d_Row_append_29 : decode m_Row_append.2.1 29 = .ok (.getfield 15, 3) := by decide +kernel
theorem d_Row_append_32 : decode m_Row_append.2.1 32 = .ok (.iconst 1, 1) := by decide +kernel
theorem d_Row_append_33 : decode m_Row_append.2.1 33 = .ok (.iadd, 1) := by decide +kernel
theorem d_Row_append_34 : decode m_Row_append.2.1 34 = .ok (.putfield 15, 3) := by decide +kernel
theorem d_Row_append_37 : decode m_Row_append.2.1 37 = .ok (.return_, 1) := by decide +kernel
theorem d_Row_appendPart_0 : decode m_Row_appendPart.2.1 0 = .ok (.iload_n 2, 1) := by decide +kernel
theorem d_Row_appendPart_1 : decode m_Row_appendPart.2.1 1 = .ok (.istore 4, 2) := by decide +kernel
theorem d_Row_appendPart_3 : decode m_Row_appendPart.2.1 3 = .ok (.iload 4, 2) := by decide +kernel
theorem d_Row_appendPart_5 : decode m_Row_appendPart.2.1 5 = .ok (.iload_n 3, 1) := by decide +kernel
theorem d_Row_appendPart_6 : decode m_Row_appendPart.2.1 6 = .ok (.if_icmp .ge 19, 3) := by decide +kernel
theorem d_Row_appendPart_9 : decode m_Row_appendPart.2.1 9 = .ok (.aload_n 0, 1) := by decide +kernel
theorem d_Row_appendPart_10 : decode m_Row_appendPart.2.1 10 = .ok (.aload_n 1, 1) := by decide +kernel
theorem d_Row_appendPart_11 : decode m_Row_appendPart.2.1 11 = .ok (.iload 4, 2) := by decide +kernel
theorem d_Row_appendPart_13 : decode m_Row_appendPart.2.1 13 = .ok (.invokevirtual 22, 3) := by decide +kernel
theorem d_Row_appendPart_16 : decode m_Row_appendPart.2.1 16 = .ok (.invokevirtual 26, 3) := by decide +kernel
theorem d_Row_appendPart_19 : decode m_Row_appendPart.2.1 19 = .ok (.iinc 4 1, 3) := by decide +kernel
theorem d_Row_appendPart_22 : decode m_Row_appendPart.2.1 22 = .ok (.goto (-19), 3) := by decide +kernel
theorem d_Row_appendPart_25 : decode m_Row_appendPart.2.1 25 = .ok (.return_, 1) := by decide +kernel
theorem d_Row_become_0 : decode m_Row_become.2.1 0 = .ok (.aload_n 0, 1) := by decide +kernel
theorem d_Row_become_1 : decode m_Row_become.2.1 1 = .ok (.invokevirtual 30, 3) := by decide +kernel
theorem d_Row_become_4 : decode m_Row_become.2.1 4 = .ok (.aload_n 0, 1) := by decide +kernel
theorem d_Row_become_5 : decode m_Row_become.2.1 5 = .ok (.iload_n 1, 1) := by decide +kernel
theorem d_Row_become_6 : decode m_Row_become.2.1 6 = .ok (.invokevirtual 26, 3) := by decide +kernel
theorem d_Row_become_9 : decode m_Row_become.2.1 9 = .ok (.return_, 1) := by decide +kernel
theorem d_Row_copy_0 : decode m_Row_copy.2.1 0 = .ok (.aload_n 1, 1) := by decide +kernel
theorem d_Row_copy_1 : decode m_Row_copy.2.1 1 = .ok (.getfield 9, 3) := by decide +kernel
theorem d_Row_copy_4 : decode m_Row_copy.2.1 4 = .ok (.iconst 0, 1) := by decide +kernel
theorem d_Row_copy_5 : decode m_Row_copy.2.1 5 = .ok (.aload_n 0, 1) := by decide +kernel
theorem d_Row_copy_6 : decode m_Row_copy.2.1 6 = .ok (.getfield 9, 3) := by decide +kernel
theorem d_Row_copy_9 : decode m_Row_copy.2.1 9 = .ok (.iconst 0, 1) := by decide +kernel
theorem d_Row_copy_10 : decode m_Row_copy.2.1 10 = .ok (.aload_n 1, 1) := by decide +kernel
theorem d_Row_copy_11 : decode m_Row_copy.2.1 11 = .ok (.getfield 15, 3) := by decide +kernel
theorem d_Row_copy_14 : decode m_Row_copy.2.1 14 = .ok (.invokestatic 33, 3) := by decide +kernel
theorem d_Row_copy_17 : decode m_Row_copy.2.1 17 = .ok (.aload_n 0, 1) := by decide +kernel
theorem d_Row_copy_18 : decode m_Row_copy.2.1 18 = .ok (.aload_n 1, 1) := by decide +kernel
theorem d_Row_copy_19 : decode m_Row_copy.2.1 19 = .ok (.getfield 15, 3) := by decide +kernel
theorem d_Row_copy_22 : decode m_Row_copy.2.1 22 = .ok (.putfield 15, 3) := by decide +kernel
theorem d_Row_copy_25 : decode m_Row_copy.2.1 25 = .ok (.return_, 1) := by decide +kernel
theorem d_Row_join_0 : decode m_Row_join.2.1 0 = .ok (.aload_n 0, 1) := by decide +kernel
theorem d_Row_join_1 : decode m_Row_join.2.1 1 = .ok (.iload_n 1, 1) := by decide +kernel
theorem d_Row_join_2 : decode m_Row_join.2.1 2 = .ok (.invokevirtual 39, 3) := by decide +kernel
theorem d_Row_join_5 : decode m_Row_join.2.1 5 = .ok (.aload_n 0, 1) := by decide +kernel
theorem d_Row_join_6 : decode m_Row_join.2.1 6 = .ok (.aload_n 2, 1) := by decide +kernel
theorem d_Row_join_7 : decode m_Row_join.2.1 7 = .ok (.iconst 0, 1) := by decide +kernel
theorem d_Row_join_8 : decode m_Row_join.2.1 8 = .ok (.aload_n 2, 1) := by decide +kernel
theorem d_Row_join_9 : decode m_Row_join.2.1 9 = .ok (.getfield 15, 3) := by decide +kernel
theorem d_Row_join_12 : decode m_Row_join.2.1 12 = .ok (.invokevirtual 42, 3) := by decide +kernel
theorem d_Row_join_15 : decode m_Row_join.2.1 15 = .ok (.aload_n 0, 1) := by decide +kernel
theorem d_Row_join_16 : decode m_Row_join.2.1 16 = .ok (.aload_n 3, 1) := by decide +kernel
theorem d_Row_join_17 : decode m_Row_join.2.1 17 = .ok (.iconst 0, 1) := by decide +kernel
theorem d_Row_join_18 : decode m_Row_join.2.1 18 = .ok (.aload_n 3, 1) := by decide +kernel
theorem d_Row_join_19 : decode m_Row_join.2.1 19 = .ok (.getfield 15, 3) := by decide +kernel
theorem d_Row_join_22 : decode m_Row_join.2.1 22 = .ok (.invokevirtual 42, 3) := by decide +kernel
theorem d_Row_join_25 : decode m_Row_join.2.1 25 = .ok (.return_, 1) := by decide +kernel
theorem d_Row_endOf_0 : decode m_Row_endOf.2.1 0 = .ok (.iconst 1, 1) := by decide +kernel
theorem d_Row_endOf_1 : decode m_Row_endOf.2.1 1 = .ok (.istore_n 2, 1) := by decide +kernel
theorem d_Row_endOf_2 : decode m_Row_endOf.2.1 2 = .ok (.iload_n 1, 1) := by decide +kernel
theorem d_Row_endOf_3 : decode m_Row_endOf.2.1 3 = .ok (.istore_n 3, 1) := by decide +kernel
theorem d_Row_endOf_4 : decode m_Row_endOf.2.1 4 = .ok (.iload_n 3, 1) := by decide +kernel
theorem d_Row_endOf_5 : decode m_Row_endOf.2.1 5 = .ok (.aload_n 0, 1) := by decide +kernel
theorem d_Row_endOf_6 : decode m_Row_endOf.2.1 6 = .ok (.getfield 15, 3) := by decide +kernel
theorem d_Row_endOf_9 : decode m_Row_endOf.2.1 9 = .ok (.if_icmp .ge 33, 3) := by decide +kernel
theorem d_Row_endOf_12 : decode m_Row_endOf.2.1 12 = .ok (.iload_n 2, 1) := by decide +kernel
theorem d_Row_endOf_13 : decode m_Row_endOf.2.1 13 = .ok (.ifCond .le 29, 3) := by decide +kernel
theorem d_Row_endOf_16 : decode m_Row_endOf.2.1 16 = .ok (.iload_n 2, 1) := by decide +kernel
theorem d_Row_endOf_17 : decode m_Row_endOf.2.1 17 = .ok (.aload_n 0, 1) := by decide +kernel
theorem d_Row_endOf_18 : decode m_Row_endOf.2.1 18 = .ok (.getfield 9, 3) := by decide +kernel
theorem d_Row_endOf_21 : decode m_Row_endOf.2.1 21 = .ok (.iload_n 3, 1) := by decide +kernel
theorem d_Row_endOf_22 : decode m_Row_endOf.2.1 22 = .ok (.iaload, 1) := by decide +kernel
theorem d_Row_endOf_23 : decode m_Row_endOf.2.1 23 = .ok (.invokestatic 46, 3) := by decide +kernel
theorem d_Row_endOf_26 : decode m_Row_endOf.2.1 26 = .ok (.ifCond .eq 7, 3) := by decide +kernel
theorem d_Row_endOf_29 : decode m_Row_endOf.2.1 29 = .ok (.iconst 1, 1) := by decide +kernel
theorem d_Row_endOf_30 : decode m_Row_endOf.2.1 30 = .ok (.goto 4, 3) := by decide +kernel
theorem d_Row_endOf_33 : decode m_Row_endOf.2.1 33 = .ok (.iconst (-1), 1) := by decide +kernel
theorem d_Row_endOf_34 : decode m_Row_endOf.2.1 34 = .ok (.iadd, 1) := by decide +kernel
theorem d_Row_endOf_35 : decode m_Row_endOf.2.1 35 = .ok (.istore_n 2, 1) := by decide +kernel
theorem d_Row_endOf_36 : decode m_Row_endOf.2.1 36 = .ok (.iinc 3 1, 3) := by decide +kernel
theorem d_Row_endOf_39 : decode m_Row_endOf.2.1 39 = .ok (.goto (-35), 3) := by decide +kernel
theorem d_Row_endOf_42 : decode m_Row_endOf.2.1 42 = .ok (.iload_n 3, 1) := by decide +kernel
theorem d_Row_endOf_43 : decode m_Row_endOf.2.1 43 = .ok (.ireturn, 1) := by decide +kernel
theorem d_Row_headOf_0 : decode m_Row_headOf.2.1 0 = .ok (.iload_n 1, 1) := by decide +kernel
theorem d_Row_headOf_1 : decode m_Row_headOf.2.1 1 = .ok (.istore_n 2, 1) := by decide +kernel
theorem d_Row_headOf_2 : decode m_Row_headOf.2.1 2 = .ok (.iload_n 2, 1) := by decide +kernel
theorem d_Row_headOf_3 : decode m_Row_headOf.2.1 3 = .ok (.aload_n 0, 1) := by decide +kernel
theorem d_Row_headOf_4 : decode m_Row_headOf.2.1 4 = .ok (.getfield 15, 3) := by decide +kernel
theorem d_Row_headOf_7 : decode m_Row_headOf.2.1 7 = .ok (.if_icmp .ge 19, 3) := by decide +kernel
theorem d_Row_headOf_10 : decode m_Row_headOf.2.1 10 = .ok (.aload_n 0, 1) := by decide +kernel
theorem d_Row_headOf_11 : decode m_Row_headOf.2.1 11 = .ok (.getfield 9, 3) := by decide +kernel
theorem d_Row_headOf_14 : decode m_Row_headOf.2.1 14 = .ok (.iload_n 2, 1) := by decide +kernel
theorem d_Row_headOf_15 : decode m_Row_headOf.2.1 15 = .ok (.iaload, 1) := by decide +kernel
theorem d_Row_headOf_16 : decode m_Row_headOf.2.1 16 = .ok (.iconst 2, 1) := by decide +kernel
theorem d_Row_headOf_17 : decode m_Row_headOf.2.1 17 = .ok (.if_icmp .ne 9, 3) := by decide +kernel
theorem d_Row_headOf_20 : decode m_Row_headOf.2.1 20 = .ok (.iinc 2 1, 3) := by decide +kernel
theorem d_Row_headOf_23 : decode m_Row_headOf.2.1 23 = .ok (.goto (-21), 3) := by decide +kernel
theorem d_Row_headOf_26 : decode m_Row_headOf.2.1 26 = .ok (.iload_n 2, 1) := by decide +kernel
theorem d_Row_headOf_27 : decode m_Row_headOf.2.1 27 = .ok (.ireturn, 1) := by decide +kernel
theorem d_Row_countOf_0 : decode m_Row_countOf.2.1 0 = .ok (.iconst 0, 1) := by decide +kernel
theorem d_Row_countOf_1 : decode m_Row_countOf.2.1 1 = .ok (.istore_n 2, 1) := by decide +kernel
theorem d_Row_countOf_2 : decode m_Row_countOf.2.1 2 = .ok (.iconst 0, 1) := by decide +kernel
theorem d_Row_countOf_3 : decode m_Row_countOf.2.1 3 = .ok (.istore_n 3, 1) := by decide +kernel
theorem d_Row_countOf_4 : decode m_Row_countOf.2.1 4 = .ok (.iload_n 3, 1) := by decide +kernel
theorem d_Row_countOf_5 : decode m_Row_countOf.2.1 5 = .ok (.aload_n 0, 1) := by decide +kernel
theorem d_Row_countOf_6 : decode m_Row_countOf.2.1 6 = .ok (.getfield 15, 3) := by decide +kernel
theorem d_Row_countOf_9 : decode m_Row_countOf.2.1 9 = .ok (.if_icmp .ge 22, 3) := by decide +kernel
theorem d_Row_countOf_12 : decode m_Row_countOf.2.1 12 = .ok (.aload_n 0, 1) := by decide +kernel
theorem d_Row_countOf_13 : decode m_Row_countOf.2.1 13 = .ok (.getfield 9, 3) := by decide +kernel
theorem d_Row_countOf_16 : decode m_Row_countOf.2.1 16 = .ok (.iload_n 3, 1) := by decide +kernel
theorem d_Row_countOf_17 : decode m_Row_countOf.2.1 17 = .ok (.iaload, 1) := by decide +kernel
theorem d_Row_countOf_18 : decode m_Row_countOf.2.1 18 = .ok (.iload_n 1, 1) := by decide +kernel
theorem d_Row_countOf_19 : decode m_Row_countOf.2.1 19 = .ok (.if_icmp .ne 6, 3) := by decide +kernel
theorem d_Row_countOf_22 : decode m_Row_countOf.2.1 22 = .ok (.iinc 2 1, 3) := by decide +kernel
theorem d_Row_countOf_25 : decode m_Row_countOf.2.1 25 = .ok (.iinc 3 1, 3) := by decide +kernel
theorem d_Row_countOf_28 : decode m_Row_countOf.2.1 28 = .ok (.goto (-24), 3) := by decide +kernel
theorem d_Row_countOf_31 : decode m_Row_countOf.2.1 31 = .ok (.iload_n 2, 1) := by decide +kernel
theorem d_Row_countOf_32 : decode m_Row_countOf.2.1 32 = .ok (.ireturn, 1) := by decide +kernel
theorem d_Row_isPart_0 : decode m_Row_isPart.2.1 0 = .ok (.aload_n 0, 1) := by decide +kernel
theorem d_Row_isPart_1 : decode m_Row_isPart.2.1 1 = .ok (.getfield 15, 3) := by decide +kernel
theorem d_Row_isPart_4 : decode m_Row_isPart.2.1 4 = .ok (.iload_n 3, 1) := by decide +kernel
theorem d_Row_isPart_5 : decode m_Row_isPart.2.1 5 = .ok (.iload_n 2, 1) := by decide +kernel
theorem d_Row_isPart_6 : decode m_Row_isPart.2.1 6 = .ok (.isub, 1) := by decide +kernel
theorem d_Row_isPart_7 : decode m_Row_isPart.2.1 7 = .ok (.if_icmp .eq 5, 3) := by decide +kernel
theorem d_Row_isPart_10 : decode m_Row_isPart.2.1 10 = .ok (.iconst 0, 1) := by decide +kernel
theorem d_Row_isPart_11 : decode m_Row_isPart.2.1 11 = .ok (.ireturn, 1) := by decide +kernel
theorem d_Row_isPart_12 : decode m_Row_isPart.2.1 12 = .ok (.iconst 0, 1) := by decide +kernel
theorem d_Row_isPart_13 : decode m_Row_isPart.2.1 13 = .ok (.istore 4, 2) := by decide +kernel
theorem d_Row_isPart_15 : decode m_Row_isPart.2.1 15 = .ok (.iload 4, 2) := by decide +kernel
theorem d_Row_isPart_17 : decode m_Row_isPart.2.1 17 = .ok (.aload_n 0, 1) := by decide +kernel
theorem d_Row_isPart_18 : decode m_Row_isPart.2.1 18 = .ok (.getfield 15, 3) := by decide +kernel
theorem d_Row_isPart_21 : decode m_Row_isPart.2.1 21 = .ok (.if_icmp .ge 29, 3) := by decide +kernel
theorem d_Row_isPart_24 : decode m_Row_isPart.2.1 24 = .ok (.aload_n 0, 1) := by decide +kernel
theorem d_Row_isPart_25 : decode m_Row_isPart.2.1 25 = .ok (.getfield 9, 3) := by decide +kernel
theorem d_Row_isPart_28 : decode m_Row_isPart.2.1 28 = .ok (.iload 4, 2) := by decide +kernel
theorem d_Row_isPart_30 : decode m_Row_isPart.2.1 30 = .ok (.iaload, 1) := by decide +kernel
theorem d_Row_isPart_31 : decode m_Row_isPart.2.1 31 = .ok (.aload_n 1, 1) := by decide +kernel
theorem d_Row_isPart_32 : decode m_Row_isPart.2.1 32 = .ok (.iload_n 2, 1) := by decide +kernel
theorem d_Row_isPart_33 : decode m_Row_isPart.2.1 33 = .ok (.iload 4, 2) := by decide +kernel
theorem d_Row_isPart_35 : decode m_Row_isPart.2.1 35 = .ok (.iadd, 1) := by decide +kernel
theorem d_Row_isPart_36 : decode m_Row_isPart.2.1 36 = .ok (.invokevirtual 22, 3) := by decide +kernel
theorem d_Row_isPart_39 : decode m_Row_isPart.2.1 39 = .ok (.if_icmp .eq 5, 3) := by decide +kernel
theorem d_Row_isPart_42 : decode m_Row_isPart.2.1 42 = .ok (.iconst 0, 1) := by decide +kernel
theorem d_Row_isPart_43 : decode m_Row_isPart.2.1 43 = .ok (.ireturn, 1) := by decide +kernel
theorem d_Row_isPart_44 : decode m_Row_isPart.2.1 44 = .ok (.iinc 4 1, 3) := by decide +kernel
theorem d_Row_isPart_47 : decode m_Row_isPart.2.1 47 = .ok (.goto (-32), 3) := by decide +kernel
theorem d_Row_isPart_50 : decode m_Row_isPart.2.1 50 = .ok (.iconst 1, 1) := by decide +kernel
theorem d_Row_isPart_51 : decode m_Row_isPart.2.1 51 = .ok (.ireturn, 1) := by decide +kernel
theorem d_Row_equalsRow_0 : decode m_Row_equalsRow.2.1 0 = .ok (.aload_n 0, 1) := by decide +kernel
theorem d_Row_equalsRow_1 : decode m_Row_equalsRow.2.1 1 = .ok (.aload_n 1, 1) := by decide +kernel
theorem d_Row_equalsRow_2 : decode m_Row_equalsRow.2.1 2 = .ok (.iconst 0, 1) := by decide +kernel
theorem d_Row_equalsRow_3 : decode m_Row_equalsRow.2.1 3 = .ok (.aload_n 1, 1) := by decide +kernel
theorem d_Row_equalsRow_4 : decode m_Row_equalsRow.2.1 4 = .ok (.getfield 15, 3) := by decide +kernel
theorem d_Row_equalsRow_7 : decode m_Row_equalsRow.2.1 7 = .ok (.invokevirtual 50, 3) := by decide +kernel
theorem d_Row_equalsRow_10 : decode m_Row_equalsRow.2.1 10 = .ok (.ireturn, 1) := by decide +kernel
theorem d_Row_hasParts_0 : decode m_Row_hasParts.2.1 0 = .ok (.iload_n 0, 1) := by decide +kernel
theorem d_Row_hasParts_1 : decode m_Row_hasParts.2.1 1 = .ok (.iconst 2, 1) := by decide +kernel
theorem d_Row_hasParts_2 : decode m_Row_hasParts.2.1 2 = .ok (.if_icmp .eq 13, 3) := by decide +kernel
theorem d_Row_hasParts_5 : decode m_Row_hasParts.2.1 5 = .ok (.iload_n 0, 1) := by decide +kernel
theorem d_Row_hasParts_6 : decode m_Row_hasParts.2.1 6 = .ok (.iconst 3, 1) := by decide +kernel
theorem d_Row_hasParts_7 : decode m_Row_hasParts.2.1 7 = .ok (.if_icmp .eq 8, 3) := by decide +kernel
theorem d_Row_hasParts_10 : decode m_Row_hasParts.2.1 10 = .ok (.iload_n 0, 1) := by decide +kernel
theorem d_Row_hasParts_11 : decode m_Row_hasParts.2.1 11 = .ok (.iconst 4, 1) := by decide +kernel
theorem d_Row_hasParts_12 : decode m_Row_hasParts.2.1 12 = .ok (.if_icmp .ne 7, 3) := by decide +kernel
theorem d_Row_hasParts_15 : decode m_Row_hasParts.2.1 15 = .ok (.iconst 1, 1) := by decide +kernel
theorem d_Row_hasParts_16 : decode m_Row_hasParts.2.1 16 = .ok (.goto 4, 3) := by decide +kernel
theorem d_Row_hasParts_19 : decode m_Row_hasParts.2.1 19 = .ok (.iconst 0, 1) := by decide +kernel
theorem d_Row_hasParts_20 : decode m_Row_hasParts.2.1 20 = .ok (.ireturn, 1) := by decide +kernel
theorem d_Wk_init_0 : decode m_Wk_init.2.1 0 = .ok (.aload_n 0, 1) := by decide +kernel
theorem d_Wk_init_1 : decode m_Wk_init.2.1 1 = .ok (.invokespecial 3, 3) := by decide +kernel
theorem d_Wk_init_4 : decode m_Wk_init.2.1 4 = .ok (.aload_n 0, 1) := by decide +kernel
theorem d_Wk_init_5 : decode m_Wk_init.2.1 5 = .ok (.bipush 41, 2) := by decide +kernel
theorem d_Wk_init_7 : decode m_Wk_init.2.1 7 = .ok (.newarray .int, 2) := by decide +kernel
theorem d_Wk_init_9 : decode m_Wk_init.2.1 9 = .ok (.putfield 9, 3) := by decide +kernel
theorem d_Wk_init_12 : decode m_Wk_init.2.1 12 = .ok (.aload_n 0, 1) := by decide +kernel
theorem d_Wk_init_13 : decode m_Wk_init.2.1 13 = .ok (.iconst 0, 1) := by decide +kernel
theorem d_Wk_init_14 : decode m_Wk_init.2.1 14 = .ok (.putfield 15, 3) := by decide +kernel
theorem d_Wk_init_17 : decode m_Wk_init.2.1 17 = .ok (.return_, 1) := by decide +kernel
theorem d_Wk_begin_0 : decode m_Wk_begin.2.1 0 = .ok (.aload_n 0, 1) := by decide +kernel
theorem d_Wk_begin_1 : decode m_Wk_begin.2.1 1 = .ok (.getfield 9, 3) := by decide +kernel
theorem d_Wk_begin_4 : decode m_Wk_begin.2.1 4 = .ok (.iconst 0, 1) := by decide +kernel
theorem d_Wk_begin_5 : decode m_Wk_begin.2.1 5 = .ok (.iconst 0, 1) := by decide +kernel
theorem d_Wk_begin_6 : decode m_Wk_begin.2.1 6 = .ok (.iastore, 1) := by decide +kernel
theorem d_Wk_begin_7 : decode m_Wk_begin.2.1 7 = .ok (.aload_n 0, 1) := by decide +kernel
theorem d_Wk_begin_8 : decode m_Wk_begin.2.1 8 = .ok (.iconst 1, 1) := by decide +kernel
theorem d_Wk_begin_9 : decode m_Wk_begin.2.1 9 = .ok (.putfield 15, 3) := by decide +kernel
theorem d_Wk_begin_12 : decode m_Wk_begin.2.1 12 = .ok (.return_, 1) := by decide +kernel
theorem d_Wk_goesOn_0 : decode m_Wk_goesOn.2.1 0 = .ok (.aload_n 0, 1) := by decide +kernel
theorem d_Wk_goesOn_1 : decode m_Wk_goesOn.2.1 1 = .ok (.getfield 15, 3) := by decide +kernel
theorem d_Wk_goesOn_4 : decode m_Wk_goesOn.2.1 4 = .ok (.ifCond .le 7, 3) := by decide +kernel
theorem d_Wk_goesOn_7 : decode m_Wk_goesOn.2.1 7 = .ok (.iconst 1, 1) := by decide +kernel
theorem d_Wk_goesOn_8 : decode m_Wk_goesOn.2.1 8 = .ok (.goto 4, 3) := by decide +kernel
theorem d_Wk_goesOn_11 : decode m_Wk_goesOn.2.1 11 = .ok (.iconst 0, 1) := by decide +kernel
theorem d_Wk_goesOn_12 : decode m_Wk_goesOn.2.1 12 = .ok (.ireturn, 1) := by decide +kernel
theorem d_Wk_depthOf_0 : decode m_Wk_depthOf.2.1 0 = .ok (.aload_n 0, 1) := by decide +kernel
theorem d_Wk_depthOf_1 : decode m_Wk_depthOf.2.1 1 = .ok (.dup, 1) := by decide +kernel
theorem d_Wk_depthOf_2 : decode m_Wk_depthOf.2.1 2 = .ok (.getfield 15, 3) := by decide +kernel
theorem d_Wk_depthOf_5 : decode m_Wk_depthOf.2.1 5 = .ok (.iconst 1, 1) := by decide +kernel
theorem d_Wk_depthOf_6 : decode m_Wk_depthOf.2.1 6 = .ok (.isub, 1) := by decide +kernel
theorem d_Wk_depthOf_7 : decode m_Wk_depthOf.2.1 7 = .ok (.putfield 15, 3) := by decide +kernel
theorem d_Wk_depthOf_10 : decode m_Wk_depthOf.2.1 10 = .ok (.aload_n 0, 1) := by decide +kernel
theorem d_Wk_depthOf_11 : decode m_Wk_depthOf.2.1 11 = .ok (.getfield 9, 3) := by decide +kernel
theorem d_Wk_depthOf_14 : decode m_Wk_depthOf.2.1 14 = .ok (.aload_n 0, 1) := by decide +kernel
theorem d_Wk_depthOf_15 : decode m_Wk_depthOf.2.1 15 = .ok (.getfield 15, 3) := by decide +kernel
theorem d_Wk_depthOf_18 : decode m_Wk_depthOf.2.1 18 = .ok (.iaload, 1) := by decide +kernel
theorem d_Wk_depthOf_19 : decode m_Wk_depthOf.2.1 19 = .ok (.istore_n 2, 1) := by decide +kernel
theorem d_Wk_depthOf_20 : decode m_Wk_depthOf.2.1 20 = .ok (.iload_n 1, 1) := by decide +kernel
theorem d_Wk_depthOf_21 : decode m_Wk_depthOf.2.1 21 = .ok (.iconst 2, 1) := by decide +kernel
theorem d_Wk_depthOf_22 : decode m_Wk_depthOf.2.1 22 = .ok (.if_icmp .eq 13, 3) := by decide +kernel
theorem d_Wk_depthOf_25 : decode m_Wk_depthOf.2.1 25 = .ok (.iload_n 1, 1) := by decide +kernel
theorem d_Wk_depthOf_26 : decode m_Wk_depthOf.2.1 26 = .ok (.iconst 3, 1) := by decide +kernel
theorem d_Wk_depthOf_27 : decode m_Wk_depthOf.2.1 27 = .ok (.if_icmp .eq 8, 3) := by decide +kernel
theorem d_Wk_depthOf_30 : decode m_Wk_depthOf.2.1 30 = .ok (.iload_n 1, 1) := by decide +kernel
theorem d_Wk_depthOf_31 : decode m_Wk_depthOf.2.1 31 = .ok (.iconst 4, 1) := by decide +kernel
theorem d_Wk_depthOf_32 : decode m_Wk_depthOf.2.1 32 = .ok (.if_icmp .ne 46, 3) := by decide +kernel
theorem d_Wk_depthOf_35 : decode m_Wk_depthOf.2.1 35 = .ok (.aload_n 0, 1) := by decide +kernel
theorem d_Wk_depthOf_36 : decode m_Wk_depthOf.2.1 36 = .ok (.getfield 9, 3) := by decide +kernel
theorem d_Wk_depthOf_39 : decode m_Wk_depthOf.2.1 39 = .ok (.aload_n 0, 1) := by decide +kernel
theorem d_Wk_depthOf_40 : decode m_Wk_depthOf.2.1 40 = .ok (.getfield 15, 3) := by decide +kernel
theorem d_Wk_depthOf_43 : decode m_Wk_depthOf.2.1 43 = .ok (.iload_n 1, 1) := by decide +kernel
theorem d_Wk_depthOf_44 : decode m_Wk_depthOf.2.1 44 = .ok (.iconst 2, 1) := by decide +kernel
theorem d_Wk_depthOf_45 : decode m_Wk_depthOf.2.1 45 = .ok (.if_icmp .ne 7, 3) := by decide +kernel
theorem d_Wk_depthOf_48 : decode m_Wk_depthOf.2.1 48 = .ok (.iload_n 2, 1) := by decide +kernel
theorem d_Wk_depthOf_49 : decode m_Wk_depthOf.2.1 49 = .ok (.goto 6, 3) := by decide +kernel
theorem d_Wk_depthOf_52 : decode m_Wk_depthOf.2.1 52 = .ok (.iload_n 2, 1) := by decide +kernel
theorem d_Wk_depthOf_53 : decode m_Wk_depthOf.2.1 53 = .ok (.iconst 1, 1) := by decide +kernel
theorem d_Wk_depthOf_54 : decode m_Wk_depthOf.2.1 54 = .ok (.iadd, 1) := by decide +kernel
theorem d_Wk_depthOf_55 : decode m_Wk_depthOf.2.1 55 = .ok (.iastore, 1) := by decide +kernel
theorem d_Wk_depthOf_56 : decode m_Wk_depthOf.2.1 56 = .ok (.aload_n 0, 1) := by decide +kernel
theorem d_Wk_depthOf_57 : decode m_Wk_depthOf.2.1 57 = .ok (.getfield 9, 3) := by decide +kernel
theorem d_Wk_depthOf_60 : decode m_Wk_depthOf.2.1 60 = .ok (.aload_n 0, 1) := by decide +kernel
theorem d_Wk_depthOf_61 : decode m_Wk_depthOf.2.1 61 = .ok (.getfield 15, 3) := by decide +kernel
theorem d_Wk_depthOf_64 : decode m_Wk_depthOf.2.1 64 = .ok (.iconst 1, 1) := by decide +kernel
theorem d_Wk_depthOf_65 : decode m_Wk_depthOf.2.1 65 = .ok (.iadd, 1) := by decide +kernel
theorem d_Wk_depthOf_66 : decode m_Wk_depthOf.2.1 66 = .ok (.iload_n 2, 1) := by decide +kernel
theorem d_Wk_depthOf_67 : decode m_Wk_depthOf.2.1 67 = .ok (.iastore, 1) := by decide +kernel
theorem d_Wk_depthOf_68 : decode m_Wk_depthOf.2.1 68 = .ok (.aload_n 0, 1) := by decide +kernel
theorem d_Wk_depthOf_69 : decode m_Wk_depthOf.2.1 69 = .ok (.dup, 1) := by decide +kernel
theorem d_Wk_depthOf_70 : decode m_Wk_depthOf.2.1 70 = .ok (.getfield 15, 3) := by decide +kernel
theorem d_Wk_depthOf_73 : decode m_Wk_depthOf.2.1 73 = .ok (.iconst 2, 1) := by decide +kernel
theorem d_Wk_depthOf_74 : decode m_Wk_depthOf.2.1 74 = .ok (.iadd, 1) := by decide +kernel
theorem d_Wk_depthOf_75 : decode m_Wk_depthOf.2.1 75 = .ok (.putfield 15, 3) := by decide +kernel
theorem d_Wk_depthOf_78 : decode m_Wk_depthOf.2.1 78 = .ok (.iload_n 2, 1) := by decide +kernel
theorem d_Wk_depthOf_79 : decode m_Wk_depthOf.2.1 79 = .ok (.ireturn, 1) := by decide +kernel
theorem d_Jd_init_0 : decode m_Jd_init.2.1 0 = .ok (.aload_n 0, 1) := by decide +kernel
theorem d_Jd_init_1 : decode m_Jd_init.2.1 1 = .ok (.invokespecial 1, 3) := by decide +kernel
theorem d_Jd_init_4 : decode m_Jd_init.2.1 4 = .ok (.aload_n 0, 1) := by decide +kernel
theorem d_Jd_init_5 : decode m_Jd_init.2.1 5 = .ok (.new 7, 3) := by decide +kernel
theorem d_Jd_init_8 : decode m_Jd_init.2.1 8 = .ok (.dup, 1) := by decide +kernel
theorem d_Jd_init_9 : decode m_Jd_init.2.1 9 = .ok (.invokespecial 9, 3) := by decide +kernel
theorem d_Jd_init_12 : decode m_Jd_init.2.1 12 = .ok (.putfield 10, 3) := by decide +kernel
theorem d_Jd_init_15 : decode m_Jd_init.2.1 15 = .ok (.aload_n 0, 1) := by decide +kernel
theorem d_Jd_init_16 : decode m_Jd_init.2.1 16 = .ok (.new 7, 3) := by decide +kernel
theorem d_Jd_init_19 : decode m_Jd_init.2.1 19 = .ok (.dup, 1) := by decide +kernel
theorem d_Jd_init_20 : decode m_Jd_init.2.1 20 = .ok (.invokespecial 9, 3) := by decide +kernel
theorem d_Jd_init_23 : decode m_Jd_init.2.1 23 = .ok (.putfield 16, 3) := by decide +kernel
theorem d_Jd_init_26 : decode m_Jd_init.2.1 26 = .ok (.aload_n 0, 1) := by decide +kernel
theorem d_Jd_init_27 : decode m_Jd_init.2.1 27 = .ok (.iconst 0, 1) := by decide +kernel
theorem d_Jd_init_28 : decode m_Jd_init.2.1 28 = .ok (.putfield 19, 3) := by decide +kernel
theorem d_Jd_init_31 : decode m_Jd_init.2.1 31 = .ok (.return_, 1) := by decide +kernel
theorem d_Ru_init_0 : decode m_Ru_init.2.1 0 = .ok (.aload_n 0, 1) := by decide +kernel
theorem d_Ru_init_1 : decode m_Ru_init.2.1 1 = .ok (.invokespecial 1, 3) := by decide +kernel
theorem d_Ru_init_4 : decode m_Ru_init.2.1 4 = .ok (.aload_n 0, 1) := by decide +kernel
theorem d_Ru_init_5 : decode m_Ru_init.2.1 5 = .ok (.new 7, 3) := by decide +kernel
theorem d_Ru_init_8 : decode m_Ru_init.2.1 8 = .ok (.dup, 1) := by decide +kernel
theorem d_Ru_init_9 : decode m_Ru_init.2.1 9 = .ok (.invokespecial 9, 3) := by decide +kernel
theorem d_Ru_init_12 : decode m_Ru_init.2.1 12 = .ok (.putfield 10, 3) := by decide +kernel
theorem d_Ru_init_15 : decode m_Ru_init.2.1 15 = .ok (.aload_n 0, 1) := by decide +kernel
theorem d_Ru_init_16 : decode m_Ru_init.2.1 16 = .ok (.new 7, 3) := by decide +kernel
theorem d_Ru_init_19 : decode m_Ru_init.2.1 19 = .ok (.dup, 1) := by decide +kernel
theorem d_Ru_init_20 : decode m_Ru_init.2.1 20 = .ok (.invokespecial 9, 3) := by decide +kernel
theorem d_Ru_init_23 : decode m_Ru_init.2.1 23 = .ok (.putfield 16, 3) := by decide +kernel
theorem d_Ru_init_26 : decode m_Ru_init.2.1 26 = .ok (.aload_n 0, 1) := by decide +kernel
theorem d_Ru_init_27 : decode m_Ru_init.2.1 27 = .ok (.iconst 0, 1) := by decide +kernel
theorem d_Ru_init_28 : decode m_Ru_init.2.1 28 = .ok (.putfield 19, 3) := by decide +kernel
theorem d_Ru_init_31 : decode m_Ru_init.2.1 31 = .ok (.return_, 1) := by decide +kernel
