/-! the law's own methods, step by step -/
theorem dL_put_0 : decode cL_put 0 = .ok (.aload_n 1, 1) := by decide +kernel
theorem dL_put_1 : decode cL_put 1 = .ok (.iconst 1, 1) := by decide +kernel
theorem dL_put_2 : decode cL_put 2 = .ok (.aload_n 1, 1) := by decide +kernel
theorem dL_put_3 : decode cL_put 3 = .ok (.iconst 0, 1) := by decide +kernel
theorem dL_put_4 : decode cL_put 4 = .ok (.iaload, 1) := by decide +kernel
theorem dL_put_5 : decode cL_put 5 = .ok (.bipush 20, 2) := by decide +kernel
theorem dL_put_7 : decode cL_put 7 = .ok (.irem, 1) := by decide +kernel
theorem dL_put_8 : decode cL_put 8 = .ok (.iconst 4, 1) := by decide +kernel
theorem dL_put_9 : decode cL_put 9 = .ok (.idiv, 1) := by decide +kernel
theorem dL_put_10 : decode cL_put 10 = .ok (.iadd, 1) := by decide +kernel
theorem dL_put_11 : decode cL_put 11 = .ok (.dup2, 1) := by decide +kernel
theorem dL_put_12 : decode cL_put 12 = .ok (.iaload, 1) := by decide +kernel
theorem dL_put_13 : decode cL_put 13 = .ok (.iload_n 2, 1) := by decide +kernel
theorem dL_put_14 : decode cL_put 14 = .ok (.bipush 24, 2) := by decide +kernel
theorem dL_put_16 : decode cL_put 16 = .ok (.bipush 8, 2) := by decide +kernel
theorem dL_put_18 : decode cL_put 18 = .ok (.aload_n 1, 1) := by decide +kernel
theorem dL_put_19 : decode cL_put 19 = .ok (.iconst 0, 1) := by decide +kernel
theorem dL_put_20 : decode cL_put 20 = .ok (.iaload, 1) := by decide +kernel
theorem dL_put_21 : decode cL_put 21 = .ok (.iconst 4, 1) := by decide +kernel
theorem dL_put_22 : decode cL_put 22 = .ok (.irem, 1) := by decide +kernel
theorem dL_put_23 : decode cL_put 23 = .ok (.imul, 1) := by decide +kernel
theorem dL_put_24 : decode cL_put 24 = .ok (.isub, 1) := by decide +kernel
theorem dL_put_25 : decode cL_put 25 = .ok (.ishl, 1) := by decide +kernel
theorem dL_put_26 : decode cL_put 26 = .ok (.ior, 1) := by decide +kernel
theorem dL_put_27 : decode cL_put 27 = .ok (.iastore, 1) := by decide +kernel
theorem dL_put_28 : decode cL_put 28 = .ok (.aload_n 1, 1) := by decide +kernel
theorem dL_put_29 : decode cL_put 29 = .ok (.iconst 0, 1) := by decide +kernel
theorem dL_put_30 : decode cL_put 30 = .ok (.dup2, 1) := by decide +kernel
theorem dL_put_31 : decode cL_put 31 = .ok (.iaload, 1) := by decide +kernel
theorem dL_put_32 : decode cL_put 32 = .ok (.iconst 1, 1) := by decide +kernel
theorem dL_put_33 : decode cL_put 33 = .ok (.iadd, 1) := by decide +kernel
theorem dL_put_34 : decode cL_put 34 = .ok (.iastore, 1) := by decide +kernel
theorem dL_put_35 : decode cL_put 35 = .ok (.aload_n 1, 1) := by decide +kernel
theorem dL_put_36 : decode cL_put 36 = .ok (.iconst 0, 1) := by decide +kernel
theorem dL_put_37 : decode cL_put 37 = .ok (.iaload, 1) := by decide +kernel
theorem dL_put_38 : decode cL_put 38 = .ok (.bipush 20, 2) := by decide +kernel
theorem dL_put_40 : decode cL_put 40 = .ok (.irem, 1) := by decide +kernel
theorem dL_put_41 : decode cL_put 41 = .ok (.ifCond .ne 8, 3) := by decide +kernel
theorem dL_put_44 : decode cL_put 44 = .ok (.aload_n 0, 1) := by decide +kernel
theorem dL_put_45 : decode cL_put 45 = .ok (.aload_n 1, 1) := by decide +kernel
theorem dL_put_46 : decode cL_put 46 = .ok (.invokestatic 7, 3) := by decide +kernel
theorem dL_put_49 : decode cL_put 49 = .ok (.return_, 1) := by decide +kernel
theorem dL_flush_0 : decode cL_flush 0 = .ok (.aload_n 0, 1) := by decide +kernel
theorem dL_flush_1 : decode cL_flush 1 = .ok (.aload_n 1, 1) := by decide +kernel
theorem dL_flush_2 : decode cL_flush 2 = .ok (.iconst 1, 1) := by decide +kernel
theorem dL_flush_3 : decode cL_flush 3 = .ok (.iaload, 1) := by decide +kernel
theorem dL_flush_4 : decode cL_flush 4 = .ok (.aload_n 1, 1) := by decide +kernel
theorem dL_flush_5 : decode cL_flush 5 = .ok (.iconst 2, 1) := by decide +kernel
theorem dL_flush_6 : decode cL_flush 6 = .ok (.iaload, 1) := by decide +kernel
theorem dL_flush_7 : decode cL_flush 7 = .ok (.aload_n 1, 1) := by decide +kernel
theorem dL_flush_8 : decode cL_flush 8 = .ok (.iconst 3, 1) := by decide +kernel
theorem dL_flush_9 : decode cL_flush 9 = .ok (.iaload, 1) := by decide +kernel
theorem dL_flush_10 : decode cL_flush 10 = .ok (.aload_n 1, 1) := by decide +kernel
theorem dL_flush_11 : decode cL_flush 11 = .ok (.iconst 4, 1) := by decide +kernel
theorem dL_flush_12 : decode cL_flush 12 = .ok (.iaload, 1) := by decide +kernel
theorem dL_flush_13 : decode cL_flush 13 = .ok (.aload_n 1, 1) := by decide +kernel
theorem dL_flush_14 : decode cL_flush 14 = .ok (.iconst 5, 1) := by decide +kernel
theorem dL_flush_15 : decode cL_flush 15 = .ok (.iaload, 1) := by decide +kernel
theorem dL_flush_16 : decode cL_flush 16 = .ok (.invokevirtual 13, 3) := by decide +kernel
theorem dL_flush_19 : decode cL_flush 19 = .ok (.pop, 1) := by decide +kernel
theorem dL_flush_20 : decode cL_flush 20 = .ok (.iconst 1, 1) := by decide +kernel
theorem dL_flush_21 : decode cL_flush 21 = .ok (.istore_n 2, 1) := by decide +kernel
theorem dL_flush_22 : decode cL_flush 22 = .ok (.iload_n 2, 1) := by decide +kernel
theorem dL_flush_23 : decode cL_flush 23 = .ok (.bipush 6, 2) := by decide +kernel
theorem dL_flush_25 : decode cL_flush 25 = .ok (.if_icmp .ge 13, 3) := by decide +kernel
theorem dL_flush_28 : decode cL_flush 28 = .ok (.aload_n 1, 1) := by decide +kernel
theorem dL_flush_29 : decode cL_flush 29 = .ok (.iload_n 2, 1) := by decide +kernel
theorem dL_flush_30 : decode cL_flush 30 = .ok (.iconst 0, 1) := by decide +kernel
theorem dL_flush_31 : decode cL_flush 31 = .ok (.iastore, 1) := by decide +kernel
theorem dL_flush_32 : decode cL_flush 32 = .ok (.iinc 2 1, 3) := by decide +kernel
theorem dL_flush_35 : decode cL_flush 35 = .ok (.goto (-13), 3) := by decide +kernel
theorem dL_flush_38 : decode cL_flush 38 = .ok (.return_, 1) := by decide +kernel
theorem dL_loadText_0 : decode cL_loadText 0 = .ok (.aload_n 1, 1) := by decide +kernel
theorem dL_loadText_1 : decode cL_loadText 1 = .ok (.iconst 0, 1) := by decide +kernel
theorem dL_loadText_2 : decode cL_loadText 2 = .ok (.iaload, 1) := by decide +kernel
theorem dL_loadText_3 : decode cL_loadText 3 = .ok (.istore_n 2, 1) := by decide +kernel
theorem dL_loadText_4 : decode cL_loadText 4 = .ok (.iload_n 2, 1) := by decide +kernel
theorem dL_loadText_5 : decode cL_loadText 5 = .ok (.bipush 20, 2) := by decide +kernel
theorem dL_loadText_7 : decode cL_loadText 7 = .ok (.irem, 1) := by decide +kernel
theorem dL_loadText_8 : decode cL_loadText 8 = .ok (.ifCond .le 8, 3) := by decide +kernel
theorem dL_loadText_11 : decode cL_loadText 11 = .ok (.aload_n 0, 1) := by decide +kernel
theorem dL_loadText_12 : decode cL_loadText 12 = .ok (.aload_n 1, 1) := by decide +kernel
theorem dL_loadText_13 : decode cL_loadText 13 = .ok (.invokestatic 7, 3) := by decide +kernel
theorem dL_loadText_16 : decode cL_loadText 16 = .ok (.aload_n 1, 1) := by decide +kernel
theorem dL_loadText_17 : decode cL_loadText 17 = .ok (.iconst 0, 1) := by decide +kernel
theorem dL_loadText_18 : decode cL_loadText 18 = .ok (.iconst 0, 1) := by decide +kernel
theorem dL_loadText_19 : decode cL_loadText 19 = .ok (.iastore, 1) := by decide +kernel
theorem dL_loadText_20 : decode cL_loadText 20 = .ok (.aload_n 0, 1) := by decide +kernel
theorem dL_loadText_21 : decode cL_loadText 21 = .ok (.iload_n 2, 1) := by decide +kernel
theorem dL_loadText_22 : decode cL_loadText 22 = .ok (.invokestatic 19, 3) := by decide +kernel
theorem dL_loadText_25 : decode cL_loadText 25 = .ok (.ireturn, 1) := by decide +kernel
theorem dL_write_0 : decode cL_write 0 = .ok (.iconst 0, 1) := by decide +kernel
theorem dL_write_1 : decode cL_write 1 = .ok (.istore_n 3, 1) := by decide +kernel
theorem dL_write_2 : decode cL_write 2 = .ok (.iload_n 3, 1) := by decide +kernel
theorem dL_write_3 : decode cL_write 3 = .ok (.aload_n 2, 1) := by decide +kernel
theorem dL_write_4 : decode cL_write 4 = .ok (.invokevirtual 23, 3) := by decide +kernel
theorem dL_write_7 : decode cL_write 7 = .ok (.if_icmp .ge 19, 3) := by decide +kernel
theorem dL_write_10 : decode cL_write 10 = .ok (.aload_n 0, 1) := by decide +kernel
theorem dL_write_11 : decode cL_write 11 = .ok (.aload_n 1, 1) := by decide +kernel
theorem dL_write_12 : decode cL_write 12 = .ok (.aload_n 2, 1) := by decide +kernel
theorem dL_write_13 : decode cL_write 13 = .ok (.iload_n 3, 1) := by decide +kernel
theorem dL_write_14 : decode cL_write 14 = .ok (.invokevirtual 29, 3) := by decide +kernel
theorem dL_write_17 : decode cL_write 17 = .ok (.invokestatic 33, 3) := by decide +kernel
theorem dL_write_20 : decode cL_write 20 = .ok (.iinc 3 1, 3) := by decide +kernel
theorem dL_write_23 : decode cL_write 23 = .ok (.goto (-21), 3) := by decide +kernel
theorem dL_write_26 : decode cL_write 26 = .ok (.return_, 1) := by decide +kernel
theorem dL_writeNumber_0 : decode cL_writeNumber 0 = .ok (.iconst 1, 1) := by decide +kernel
theorem dL_writeNumber_1 : decode cL_writeNumber 1 = .ok (.istore_n 3, 1) := by decide +kernel
theorem dL_writeNumber_2 : decode cL_writeNumber 2 = .ok (.iload_n 3, 1) := by decide +kernel
theorem dL_writeNumber_3 : decode cL_writeNumber 3 = .ok (.iload_n 2, 1) := by decide +kernel
theorem dL_writeNumber_4 : decode cL_writeNumber 4 = .ok (.bipush 10, 2) := by decide +kernel
theorem dL_writeNumber_6 : decode cL_writeNumber 6 = .ok (.idiv, 1) := by decide +kernel
theorem dL_writeNumber_7 : decode cL_writeNumber 7 = .ok (.if_icmp .gt 11, 3) := by decide +kernel
theorem dL_writeNumber_10 : decode cL_writeNumber 10 = .ok (.iload_n 3, 1) := by decide +kernel
theorem dL_writeNumber_11 : decode cL_writeNumber 11 = .ok (.bipush 10, 2) := by decide +kernel
theorem dL_writeNumber_13 : decode cL_writeNumber 13 = .ok (.imul, 1) := by decide +kernel
theorem dL_writeNumber_14 : decode cL_writeNumber 14 = .ok (.istore_n 3, 1) := by decide +kernel
theorem dL_writeNumber_15 : decode cL_writeNumber 15 = .ok (.goto (-13), 3) := by decide +kernel
theorem dL_writeNumber_18 : decode cL_writeNumber 18 = .ok (.iload_n 3, 1) := by decide +kernel
theorem dL_writeNumber_19 : decode cL_writeNumber 19 = .ok (.ifCond .le 25, 3) := by decide +kernel
theorem dL_writeNumber_22 : decode cL_writeNumber 22 = .ok (.aload_n 0, 1) := by decide +kernel
theorem dL_writeNumber_23 : decode cL_writeNumber 23 = .ok (.aload_n 1, 1) := by decide +kernel
theorem dL_writeNumber_24 : decode cL_writeNumber 24 = .ok (.bipush 48, 2) := by decide +kernel
theorem dL_writeNumber_26 : decode cL_writeNumber 26 = .ok (.iload_n 2, 1) := by decide +kernel
theorem dL_writeNumber_27 : decode cL_writeNumber 27 = .ok (.iload_n 3, 1) := by decide +kernel
theorem dL_writeNumber_28 : decode cL_writeNumber 28 = .ok (.idiv, 1) := by decide +kernel
theorem dL_writeNumber_29 : decode cL_writeNumber 29 = .ok (.bipush 10, 2) := by decide +kernel
theorem dL_writeNumber_31 : decode cL_writeNumber 31 = .ok (.irem, 1) := by decide +kernel
theorem dL_writeNumber_32 : decode cL_writeNumber 32 = .ok (.iadd, 1) := by decide +kernel
theorem dL_writeNumber_33 : decode cL_writeNumber 33 = .ok (.invokestatic 33, 3) := by decide +kernel
theorem dL_writeNumber_36 : decode cL_writeNumber 36 = .ok (.iload_n 3, 1) := by decide +kernel
theorem dL_writeNumber_37 : decode cL_writeNumber 37 = .ok (.bipush 10, 2) := by decide +kernel
theorem dL_writeNumber_39 : decode cL_writeNumber 39 = .ok (.idiv, 1) := by decide +kernel
theorem dL_writeNumber_40 : decode cL_writeNumber 40 = .ok (.istore_n 3, 1) := by decide +kernel
theorem dL_writeNumber_41 : decode cL_writeNumber 41 = .ok (.goto (-23), 3) := by decide +kernel
theorem dL_writeNumber_44 : decode cL_writeNumber 44 = .ok (.return_, 1) := by decide +kernel
theorem dL_load_0 : decode cL_load 0 = .ok (.aload_n 0, 1) := by decide +kernel
theorem dL_load_1 : decode cL_load 1 = .ok (.iload_n 1, 1) := by decide +kernel
theorem dL_load_2 : decode cL_load 2 = .ok (.invokevirtual 37, 3) := by decide +kernel
theorem dL_load_5 : decode cL_load 5 = .ok (.ireturn, 1) := by decide +kernel
theorem dL_load_6 : decode cL_load 6 = .ok (.astore_n 2, 1) := by decide +kernel
theorem dL_load_7 : decode cL_load 7 = .ok (.ldc 42, 2) := by decide +kernel
theorem dL_load_9 : decode cL_load 9 = .ok (.ireturn, 1) := by decide +kernel
theorem dL_state_0 : decode cL_state 0 = .ok (.aload_n 0, 1) := by decide +kernel
theorem dL_state_1 : decode cL_state 1 = .ok (.iload_n 1, 1) := by decide +kernel
theorem dL_state_2 : decode cL_state 2 = .ok (.invokevirtual 43, 3) := by decide +kernel
theorem dL_state_5 : decode cL_state 5 = .ok (.ireturn, 1) := by decide +kernel
theorem dL_state_6 : decode cL_state 6 = .ok (.astore_n 2, 1) := by decide +kernel
theorem dL_state_7 : decode cL_state 7 = .ok (.ldc 42, 2) := by decide +kernel
theorem dL_state_9 : decode cL_state 9 = .ok (.ireturn, 1) := by decide +kernel
theorem dL_stock_0 : decode cL_stock 0 = .ok (.aload_n 0, 1) := by decide +kernel
theorem dL_stock_1 : decode cL_stock 1 = .ok (.iload_n 1, 1) := by decide +kernel
theorem dL_stock_2 : decode cL_stock 2 = .ok (.iload_n 2, 1) := by decide +kernel
theorem dL_stock_3 : decode cL_stock 3 = .ok (.invokevirtual 46, 3) := by decide +kernel
theorem dL_stock_6 : decode cL_stock 6 = .ok (.ireturn, 1) := by decide +kernel
theorem dL_stock_7 : decode cL_stock 7 = .ok (.astore_n 3, 1) := by decide +kernel
theorem dL_stock_8 : decode cL_stock 8 = .ok (.ldc 52, 2) := by decide +kernel
theorem dL_stock_10 : decode cL_stock 10 = .ok (.ireturn, 1) := by decide +kernel
theorem dL_stock_11 : decode cL_stock 11 = .ok (.astore_n 3, 1) := by decide +kernel
theorem dL_stock_12 : decode cL_stock 12 = .ok (.ldc 42, 2) := by decide +kernel
theorem dL_stock_14 : decode cL_stock 14 = .ok (.ireturn, 1) := by decide +kernel
theorem dL_journey_0 : decode cL_journey 0 = .ok (.aload_n 0, 1) := by decide +kernel
theorem dL_journey_1 : decode cL_journey 1 = .ok (.iload_n 1, 1) := by decide +kernel
theorem dL_journey_2 : decode cL_journey 2 = .ok (.iload_n 2, 1) := by decide +kernel
theorem dL_journey_3 : decode cL_journey 3 = .ok (.invokevirtual 53, 3) := by decide +kernel
theorem dL_journey_6 : decode cL_journey 6 = .ok (.ireturn, 1) := by decide +kernel
theorem dL_journey_7 : decode cL_journey 7 = .ok (.astore_n 3, 1) := by decide +kernel
theorem dL_journey_8 : decode cL_journey 8 = .ok (.ldc 52, 2) := by decide +kernel
theorem dL_journey_10 : decode cL_journey 10 = .ok (.ireturn, 1) := by decide +kernel
theorem dL_journey_11 : decode cL_journey 11 = .ok (.astore_n 3, 1) := by decide +kernel
theorem dL_journey_12 : decode cL_journey 12 = .ok (.ldc 42, 2) := by decide +kernel
theorem dL_journey_14 : decode cL_journey 14 = .ok (.ireturn, 1) := by decide +kernel
theorem dL_step_0 : decode cL_step 0 = .ok (.aload_n 0, 1) := by decide +kernel
theorem dL_step_1 : decode cL_step 1 = .ok (.iload_n 1, 1) := by decide +kernel
theorem dL_step_2 : decode cL_step 2 = .ok (.iload_n 2, 1) := by decide +kernel
theorem dL_step_3 : decode cL_step 3 = .ok (.iload_n 3, 1) := by decide +kernel
theorem dL_step_4 : decode cL_step 4 = .ok (.invokevirtual 56, 3) := by decide +kernel
theorem dL_step_7 : decode cL_step 7 = .ok (.ireturn, 1) := by decide +kernel
theorem dL_step_8 : decode cL_step 8 = .ok (.astore 4, 2) := by decide +kernel
theorem dL_step_10 : decode cL_step 10 = .ok (.ldc 52, 2) := by decide +kernel
theorem dL_step_12 : decode cL_step 12 = .ok (.ireturn, 1) := by decide +kernel
theorem dL_step_13 : decode cL_step 13 = .ok (.astore 4, 2) := by decide +kernel
theorem dL_step_15 : decode cL_step 15 = .ok (.ldc 62, 2) := by decide +kernel
theorem dL_step_17 : decode cL_step 17 = .ok (.ireturn, 1) := by decide +kernel
theorem dL_step_18 : decode cL_step 18 = .ok (.astore 4, 2) := by decide +kernel
theorem dL_step_20 : decode cL_step 20 = .ok (.ldc 42, 2) := by decide +kernel
theorem dL_step_22 : decode cL_step 22 = .ok (.ireturn, 1) := by decide +kernel
theorem dL_owed_0 : decode cL_owed 0 = .ok (.aload_n 0, 1) := by decide +kernel
theorem dL_owed_1 : decode cL_owed 1 = .ok (.iload_n 1, 1) := by decide +kernel
theorem dL_owed_2 : decode cL_owed 2 = .ok (.iload_n 2, 1) := by decide +kernel
theorem dL_owed_3 : decode cL_owed 3 = .ok (.invokevirtual 63, 3) := by decide +kernel
theorem dL_owed_6 : decode cL_owed 6 = .ok (.ireturn, 1) := by decide +kernel
theorem dL_owed_7 : decode cL_owed 7 = .ok (.astore_n 3, 1) := by decide +kernel
theorem dL_owed_8 : decode cL_owed 8 = .ok (.ldc 52, 2) := by decide +kernel
theorem dL_owed_10 : decode cL_owed 10 = .ok (.ireturn, 1) := by decide +kernel
theorem dL_owed_11 : decode cL_owed 11 = .ok (.astore_n 3, 1) := by decide +kernel
theorem dL_owed_12 : decode cL_owed 12 = .ok (.ldc 62, 2) := by decide +kernel
theorem dL_owed_14 : decode cL_owed 14 = .ok (.ireturn, 1) := by decide +kernel
theorem dL_restsIn_0 : decode cL_restsIn 0 = .ok (.aload_n 0, 1) := by decide +kernel
theorem dL_restsIn_1 : decode cL_restsIn 1 = .ok (.iload_n 1, 1) := by decide +kernel
theorem dL_restsIn_2 : decode cL_restsIn 2 = .ok (.invokevirtual 66, 3) := by decide +kernel
theorem dL_restsIn_5 : decode cL_restsIn 5 = .ok (.ireturn, 1) := by decide +kernel
theorem dL_restsIn_6 : decode cL_restsIn 6 = .ok (.astore_n 2, 1) := by decide +kernel
theorem dL_restsIn_7 : decode cL_restsIn 7 = .ok (.ldc 52, 2) := by decide +kernel
theorem dL_restsIn_9 : decode cL_restsIn 9 = .ok (.ireturn, 1) := by decide +kernel
theorem dL_stateAfter_0 : decode cL_stateAfter 0 = .ok (.aload_n 0, 1) := by decide +kernel
theorem dL_stateAfter_1 : decode cL_stateAfter 1 = .ok (.iload_n 1, 1) := by decide +kernel
theorem dL_stateAfter_2 : decode cL_stateAfter 2 = .ok (.iload_n 2, 1) := by decide +kernel
theorem dL_stateAfter_3 : decode cL_stateAfter 3 = .ok (.invokevirtual 69, 3) := by decide +kernel
theorem dL_stateAfter_6 : decode cL_stateAfter 6 = .ok (.ireturn, 1) := by decide +kernel
theorem dL_stateAfter_7 : decode cL_stateAfter 7 = .ok (.astore_n 3, 1) := by decide +kernel
theorem dL_stateAfter_8 : decode cL_stateAfter 8 = .ok (.ldc 52, 2) := by decide +kernel
theorem dL_stateAfter_10 : decode cL_stateAfter 10 = .ok (.ireturn, 1) := by decide +kernel
theorem dL_stateAfter_11 : decode cL_stateAfter 11 = .ok (.astore_n 3, 1) := by decide +kernel
theorem dL_stateAfter_12 : decode cL_stateAfter 12 = .ok (.ldc 42, 2) := by decide +kernel
theorem dL_stateAfter_14 : decode cL_stateAfter 14 = .ok (.ireturn, 1) := by decide +kernel
theorem dL_help_0 : decode cL_help 0 = .ok (.aload_n 0, 1) := by decide +kernel
theorem dL_help_1 : decode cL_help 1 = .ok (.iload_n 1, 1) := by decide +kernel
theorem dL_help_2 : decode cL_help 2 = .ok (.iload_n 2, 1) := by decide +kernel
theorem dL_help_3 : decode cL_help 3 = .ok (.invokevirtual 72, 3) := by decide +kernel
theorem dL_help_6 : decode cL_help 6 = .ok (.ireturn, 1) := by decide +kernel
theorem dL_help_7 : decode cL_help 7 = .ok (.astore_n 3, 1) := by decide +kernel
theorem dL_help_8 : decode cL_help 8 = .ok (.ldc 52, 2) := by decide +kernel
theorem dL_help_10 : decode cL_help 10 = .ok (.ireturn, 1) := by decide +kernel
theorem dL_pass_0 : decode cL_pass 0 = .ok (.aload_n 0, 1) := by decide +kernel
theorem dL_pass_1 : decode cL_pass 1 = .ok (.iload_n 1, 1) := by decide +kernel
theorem dL_pass_2 : decode cL_pass 2 = .ok (.invokevirtual 75, 3) := by decide +kernel
theorem dL_pass_5 : decode cL_pass 5 = .ok (.ireturn, 1) := by decide +kernel
theorem dL_pass_6 : decode cL_pass 6 = .ok (.astore_n 2, 1) := by decide +kernel
theorem dL_pass_7 : decode cL_pass 7 = .ok (.ldc 42, 2) := by decide +kernel
theorem dL_pass_9 : decode cL_pass 9 = .ok (.ireturn, 1) := by decide +kernel
theorem dL_settle_0 : decode cL_settle 0 = .ok (.aload_n 0, 1) := by decide +kernel
theorem dL_settle_1 : decode cL_settle 1 = .ok (.iload_n 1, 1) := by decide +kernel
theorem dL_settle_2 : decode cL_settle 2 = .ok (.invokevirtual 78, 3) := by decide +kernel
theorem dL_settle_5 : decode cL_settle 5 = .ok (.ireturn, 1) := by decide +kernel
theorem dL_settle_6 : decode cL_settle 6 = .ok (.astore_n 2, 1) := by decide +kernel
theorem dL_settle_7 : decode cL_settle 7 = .ok (.ldc 52, 2) := by decide +kernel
theorem dL_settle_9 : decode cL_settle 9 = .ok (.ireturn, 1) := by decide +kernel
theorem dL_settle_10 : decode cL_settle 10 = .ok (.astore_n 2, 1) := by decide +kernel
theorem dL_settle_11 : decode cL_settle 11 = .ok (.ldc 83, 2) := by decide +kernel
theorem dL_settle_13 : decode cL_settle 13 = .ok (.ireturn, 1) := by decide +kernel
theorem dL_writeOff_0 : decode cL_writeOff 0 = .ok (.aload_n 0, 1) := by decide +kernel
theorem dL_writeOff_1 : decode cL_writeOff 1 = .ok (.iload_n 1, 1) := by decide +kernel
theorem dL_writeOff_2 : decode cL_writeOff 2 = .ok (.invokevirtual 84, 3) := by decide +kernel
theorem dL_writeOff_5 : decode cL_writeOff 5 = .ok (.ireturn, 1) := by decide +kernel
theorem dL_writeOff_6 : decode cL_writeOff 6 = .ok (.astore_n 2, 1) := by decide +kernel
theorem dL_writeOff_7 : decode cL_writeOff 7 = .ok (.ldc 52, 2) := by decide +kernel
theorem dL_writeOff_9 : decode cL_writeOff 9 = .ok (.ireturn, 1) := by decide +kernel
theorem dL_writeOff_10 : decode cL_writeOff 10 = .ok (.astore_n 2, 1) := by decide +kernel
theorem dL_writeOff_11 : decode cL_writeOff 11 = .ok (.ldc 83, 2) := by decide +kernel
theorem dL_writeOff_13 : decode cL_writeOff 13 = .ok (.ireturn, 1) := by decide +kernel
theorem dL_goForward_0 : decode cL_goForward 0 = .ok (.aload_n 0, 1) := by decide +kernel
theorem dL_goForward_1 : decode cL_goForward 1 = .ok (.iload_n 1, 1) := by decide +kernel
theorem dL_goForward_2 : decode cL_goForward 2 = .ok (.invokevirtual 87, 3) := by decide +kernel
theorem dL_goForward_5 : decode cL_goForward 5 = .ok (.ireturn, 1) := by decide +kernel
theorem dL_goForward_6 : decode cL_goForward 6 = .ok (.astore_n 2, 1) := by decide +kernel
theorem dL_goForward_7 : decode cL_goForward 7 = .ok (.ldc 52, 2) := by decide +kernel
theorem dL_goForward_9 : decode cL_goForward 9 = .ok (.ireturn, 1) := by decide +kernel
theorem dL_goForward_10 : decode cL_goForward 10 = .ok (.astore_n 2, 1) := by decide +kernel
theorem dL_goForward_11 : decode cL_goForward 11 = .ok (.ldc 83, 2) := by decide +kernel
theorem dL_goForward_13 : decode cL_goForward 13 = .ok (.ireturn, 1) := by decide +kernel
theorem dL_restock_0 : decode cL_restock 0 = .ok (.aload_n 0, 1) := by decide +kernel
theorem dL_restock_1 : decode cL_restock 1 = .ok (.iload_n 1, 1) := by decide +kernel
theorem dL_restock_2 : decode cL_restock 2 = .ok (.iload_n 2, 1) := by decide +kernel
theorem dL_restock_3 : decode cL_restock 3 = .ok (.invokevirtual 90, 3) := by decide +kernel
theorem dL_restock_6 : decode cL_restock 6 = .ok (.ireturn, 1) := by decide +kernel
theorem dL_restock_7 : decode cL_restock 7 = .ok (.astore_n 3, 1) := by decide +kernel
theorem dL_restock_8 : decode cL_restock 8 = .ok (.ldc 52, 2) := by decide +kernel
theorem dL_restock_10 : decode cL_restock 10 = .ok (.ireturn, 1) := by decide +kernel
theorem dL_restock_11 : decode cL_restock 11 = .ok (.astore_n 3, 1) := by decide +kernel
theorem dL_restock_12 : decode cL_restock 12 = .ok (.ldc 42, 2) := by decide +kernel
theorem dL_restock_14 : decode cL_restock 14 = .ok (.ireturn, 1) := by decide +kernel
theorem dL_with_0 : decode cL_with 0 = .ok (.aload_n 0, 1) := by decide +kernel
theorem dL_with_1 : decode cL_with 1 = .ok (.arraylength, 1) := by decide +kernel
theorem dL_with_2 : decode cL_with 2 = .ok (.iconst 1, 1) := by decide +kernel
theorem dL_with_3 : decode cL_with 3 = .ok (.iadd, 1) := by decide +kernel
theorem dL_with_4 : decode cL_with 4 = .ok (.anewarray 93, 3) := by decide +kernel
theorem dL_with_7 : decode cL_with 7 = .ok (.astore_n 2, 1) := by decide +kernel
theorem dL_with_8 : decode cL_with 8 = .ok (.iconst 0, 1) := by decide +kernel
theorem dL_with_9 : decode cL_with 9 = .ok (.istore_n 3, 1) := by decide +kernel
theorem dL_with_10 : decode cL_with 10 = .ok (.iload_n 3, 1) := by decide +kernel
theorem dL_with_11 : decode cL_with 11 = .ok (.aload_n 0, 1) := by decide +kernel
theorem dL_with_12 : decode cL_with 12 = .ok (.arraylength, 1) := by decide +kernel
theorem dL_with_13 : decode cL_with 13 = .ok (.if_icmp .ge 15, 3) := by decide +kernel
theorem dL_with_16 : decode cL_with 16 = .ok (.aload_n 2, 1) := by decide +kernel
theorem dL_with_17 : decode cL_with 17 = .ok (.iload_n 3, 1) := by decide +kernel
theorem dL_with_18 : decode cL_with 18 = .ok (.aload_n 0, 1) := by decide +kernel
theorem dL_with_19 : decode cL_with 19 = .ok (.iload_n 3, 1) := by decide +kernel
theorem dL_with_20 : decode cL_with 20 = .ok (.aaload, 1) := by decide +kernel
theorem dL_with_21 : decode cL_with 21 = .ok (.aastore, 1) := by decide +kernel
theorem dL_with_22 : decode cL_with 22 = .ok (.iinc 3 1, 3) := by decide +kernel
theorem dL_with_25 : decode cL_with 25 = .ok (.goto (-15), 3) := by decide +kernel
theorem dL_with_28 : decode cL_with 28 = .ok (.aload_n 2, 1) := by decide +kernel
theorem dL_with_29 : decode cL_with 29 = .ok (.aload_n 0, 1) := by decide +kernel
theorem dL_with_30 : decode cL_with 30 = .ok (.arraylength, 1) := by decide +kernel
theorem dL_with_31 : decode cL_with 31 = .ok (.aload_n 1, 1) := by decide +kernel
theorem dL_with_32 : decode cL_with 32 = .ok (.aastore, 1) := by decide +kernel
theorem dL_with_33 : decode cL_with 33 = .ok (.aload_n 2, 1) := by decide +kernel
theorem dL_with_34 : decode cL_with 34 = .ok (.areturn, 1) := by decide +kernel
theorem dL_writeAll_0 : decode cL_writeAll 0 = .ok (.aload_n 0, 1) := by decide +kernel
theorem dL_writeAll_1 : decode cL_writeAll 1 = .ok (.aload_n 1, 1) := by decide +kernel
theorem dL_writeAll_2 : decode cL_writeAll 2 = .ok (.aload_n 2, 1) := by decide +kernel
theorem dL_writeAll_3 : decode cL_writeAll 3 = .ok (.invokestatic 95, 3) := by decide +kernel
theorem dL_writeAll_6 : decode cL_writeAll 6 = .ok (.aload_n 0, 1) := by decide +kernel
theorem dL_writeAll_7 : decode cL_writeAll 7 = .ok (.aload_n 1, 1) := by decide +kernel
theorem dL_writeAll_8 : decode cL_writeAll 8 = .ok (.iload_n 3, 1) := by decide +kernel
theorem dL_writeAll_9 : decode cL_writeAll 9 = .ok (.invokestatic 99, 3) := by decide +kernel
theorem dL_writeAll_12 : decode cL_writeAll 12 = .ok (.return_, 1) := by decide +kernel
theorem dL_randomWorld_0 : decode cL_randomWorld 0 = .ok (.new 102, 3) := by decide +kernel
theorem dL_randomWorld_3 : decode cL_randomWorld 3 = .ok (.dup, 1) := by decide +kernel
theorem dL_randomWorld_4 : decode cL_randomWorld 4 = .ok (.invokespecial 104, 3) := by decide +kernel
theorem dL_randomWorld_7 : decode cL_randomWorld 7 = .ok (.astore_n 3, 1) := by decide +kernel
theorem dL_randomWorld_8 : decode cL_randomWorld 8 = .ok (.aload_n 0, 1) := by decide +kernel
theorem dL_randomWorld_9 : decode cL_randomWorld 9 = .ok (.aload_n 1, 1) := by decide +kernel
theorem dL_randomWorld_10 : decode cL_randomWorld 10 = .ok (.ldc 105, 2) := by decide +kernel
theorem dL_randomWorld_12 : decode cL_randomWorld 12 = .ok (.invokestatic 95, 3) := by decide +kernel
theorem dL_randomWorld_15 : decode cL_randomWorld 15 = .ok (.aload_n 2, 1) := by decide +kernel
theorem dL_randomWorld_16 : decode cL_randomWorld 16 = .ok (.iconst 4, 1) := by decide +kernel
theorem dL_randomWorld_17 : decode cL_randomWorld 17 = .ok (.invokevirtual 107, 3) := by decide +kernel
theorem dL_randomWorld_20 : decode cL_randomWorld 20 = .ok (.istore 4, 2) := by decide +kernel
theorem dL_randomWorld_22 : decode cL_randomWorld 22 = .ok (.iload 4, 2) := by decide +kernel
theorem dL_randomWorld_24 : decode cL_randomWorld 24 = .ok (.ifCond .le 118, 3) := by decide +kernel
theorem dL_randomWorld_27 : decode cL_randomWorld 27 = .ok (.aload_n 3, 1) := by decide +kernel
theorem dL_randomWorld_28 : decode cL_randomWorld 28 = .ok (.aload_n 3, 1) := by decide +kernel
theorem dL_randomWorld_29 : decode cL_randomWorld 29 = .ok (.getfield 112, 3) := by decide +kernel
theorem dL_randomWorld_32 : decode cL_randomWorld 32 = .ok (.iconst 2, 1) := by decide +kernel
theorem dL_randomWorld_33 : decode cL_randomWorld 33 = .ok (.newarray .int, 2) := by decide +kernel
theorem dL_randomWorld_35 : decode cL_randomWorld 35 = .ok (.dup, 1) := by decide +kernel
theorem dL_randomWorld_36 : decode cL_randomWorld 36 = .ok (.iconst 0, 1) := by decide +kernel
theorem dL_randomWorld_37 : decode cL_randomWorld 37 = .ok (.aload_n 2, 1) := by decide +kernel
theorem dL_randomWorld_38 : decode cL_randomWorld 38 = .ok (.aload_n 2, 1) := by decide +kernel
theorem dL_randomWorld_39 : decode cL_randomWorld 39 = .ok (.iconst 3, 1) := by decide +kernel
theorem dL_randomWorld_40 : decode cL_randomWorld 40 = .ok (.invokevirtual 107, 3) := by decide +kernel
theorem dL_randomWorld_43 : decode cL_randomWorld 43 = .ok (.ifCond .ne 9, 3) := by decide +kernel
theorem dL_randomWorld_46 : decode cL_randomWorld 46 = .ok (.sipush 1000, 3) := by decide +kernel
theorem dL_randomWorld_49 : decode cL_randomWorld 49 = .ok (.goto 5, 3) := by decide +kernel
theorem dL_randomWorld_52 : decode cL_randomWorld 52 = .ok (.bipush 20, 2) := by decide +kernel
theorem dL_randomWorld_54 : decode cL_randomWorld 54 = .ok (.invokevirtual 107, 3) := by decide +kernel
theorem dL_randomWorld_57 : decode cL_randomWorld 57 = .ok (.iastore, 1) := by decide +kernel
theorem dL_randomWorld_58 : decode cL_randomWorld 58 = .ok (.dup, 1) := by decide +kernel
theorem dL_randomWorld_59 : decode cL_randomWorld 59 = .ok (.iconst 1, 1) := by decide +kernel
theorem dL_randomWorld_60 : decode cL_randomWorld 60 = .ok (.iconst 1, 1) := by decide +kernel
theorem dL_randomWorld_61 : decode cL_randomWorld 61 = .ok (.aload_n 2, 1) := by decide +kernel
theorem dL_randomWorld_62 : decode cL_randomWorld 62 = .ok (.aload_n 2, 1) := by decide +kernel
theorem dL_randomWorld_63 : decode cL_randomWorld 63 = .ok (.iconst 2, 1) := by decide +kernel
theorem dL_randomWorld_64 : decode cL_randomWorld 64 = .ok (.invokevirtual 107, 3) := by decide +kernel
theorem dL_randomWorld_67 : decode cL_randomWorld 67 = .ok (.ifCond .ne 7, 3) := by decide +kernel
theorem dL_randomWorld_70 : decode cL_randomWorld 70 = .ok (.iconst 2, 1) := by decide +kernel
theorem dL_randomWorld_71 : decode cL_randomWorld 71 = .ok (.goto 5, 3) := by decide +kernel
theorem dL_randomWorld_74 : decode cL_randomWorld 74 = .ok (.bipush 9, 2) := by decide +kernel
theorem dL_randomWorld_76 : decode cL_randomWorld 76 = .ok (.invokevirtual 107, 3) := by decide +kernel
theorem dL_randomWorld_79 : decode cL_randomWorld 79 = .ok (.iadd, 1) := by decide +kernel
theorem dL_randomWorld_80 : decode cL_randomWorld 80 = .ok (.iastore, 1) := by decide +kernel
theorem dL_randomWorld_81 : decode cL_randomWorld 81 = .ok (.invokestatic 116, 3) := by decide +kernel
theorem dL_randomWorld_84 : decode cL_randomWorld 84 = .ok (.putfield 112, 3) := by decide +kernel
theorem dL_randomWorld_87 : decode cL_randomWorld 87 = .ok (.aload_n 0, 1) := by decide +kernel
theorem dL_randomWorld_88 : decode cL_randomWorld 88 = .ok (.aload_n 1, 1) := by decide +kernel
theorem dL_randomWorld_89 : decode cL_randomWorld 89 = .ok (.ldc 120, 2) := by decide +kernel
theorem dL_randomWorld_91 : decode cL_randomWorld 91 = .ok (.aload_n 3, 1) := by decide +kernel
theorem dL_randomWorld_92 : decode cL_randomWorld 92 = .ok (.getfield 112, 3) := by decide +kernel
theorem dL_randomWorld_95 : decode cL_randomWorld 95 = .ok (.aload_n 3, 1) := by decide +kernel
theorem dL_randomWorld_96 : decode cL_randomWorld 96 = .ok (.getfield 112, 3) := by decide +kernel
theorem dL_randomWorld_99 : decode cL_randomWorld 99 = .ok (.arraylength, 1) := by decide +kernel
theorem dL_randomWorld_100 : decode cL_randomWorld 100 = .ok (.iconst 1, 1) := by decide +kernel
theorem dL_randomWorld_101 : decode cL_randomWorld 101 = .ok (.isub, 1) := by decide +kernel
theorem dL_randomWorld_102 : decode cL_randomWorld 102 = .ok (.aaload, 1) := by decide +kernel
theorem dL_randomWorld_103 : decode cL_randomWorld 103 = .ok (.iconst 0, 1) := by decide +kernel
theorem dL_randomWorld_104 : decode cL_randomWorld 104 = .ok (.iaload, 1) := by decide +kernel
theorem dL_randomWorld_105 : decode cL_randomWorld 105 = .ok (.invokestatic 122, 3) := by decide +kernel
theorem dL_randomWorld_108 : decode cL_randomWorld 108 = .ok (.aload_n 0, 1) := by decide +kernel
theorem dL_randomWorld_109 : decode cL_randomWorld 109 = .ok (.aload_n 1, 1) := by decide +kernel
theorem dL_randomWorld_110 : decode cL_randomWorld 110 = .ok (.ldc 126, 2) := by decide +kernel
theorem dL_randomWorld_112 : decode cL_randomWorld 112 = .ok (.aload_n 3, 1) := by decide +kernel
theorem dL_randomWorld_113 : decode cL_randomWorld 113 = .ok (.getfield 112, 3) := by decide +kernel
theorem dL_randomWorld_116 : decode cL_randomWorld 116 = .ok (.aload_n 3, 1) := by decide +kernel
theorem dL_randomWorld_117 : decode cL_randomWorld 117 = .ok (.getfield 112, 3) := by decide +kernel
theorem dL_randomWorld_120 : decode cL_randomWorld 120 = .ok (.arraylength, 1) := by decide +kernel
theorem dL_randomWorld_121 : decode cL_randomWorld 121 = .ok (.iconst 1, 1) := by decide +kernel
theorem dL_randomWorld_122 : decode cL_randomWorld 122 = .ok (.isub, 1) := by decide +kernel
theorem dL_randomWorld_123 : decode cL_randomWorld 123 = .ok (.aaload, 1) := by decide +kernel
theorem dL_randomWorld_124 : decode cL_randomWorld 124 = .ok (.iconst 1, 1) := by decide +kernel
theorem dL_randomWorld_125 : decode cL_randomWorld 125 = .ok (.iaload, 1) := by decide +kernel
theorem dL_randomWorld_126 : decode cL_randomWorld 126 = .ok (.invokestatic 122, 3) := by decide +kernel
theorem dL_randomWorld_129 : decode cL_randomWorld 129 = .ok (.aload_n 0, 1) := by decide +kernel
theorem dL_randomWorld_130 : decode cL_randomWorld 130 = .ok (.aload_n 1, 1) := by decide +kernel
theorem dL_randomWorld_131 : decode cL_randomWorld 131 = .ok (.ldc 128, 2) := by decide +kernel
theorem dL_randomWorld_133 : decode cL_randomWorld 133 = .ok (.invokestatic 95, 3) := by decide +kernel
theorem dL_randomWorld_136 : decode cL_randomWorld 136 = .ok (.iinc 4 (-1), 3) := by decide +kernel
theorem dL_randomWorld_139 : decode cL_randomWorld 139 = .ok (.goto (-117), 3) := by decide +kernel
theorem dL_randomWorld_142 : decode cL_randomWorld 142 = .ok (.aload_n 3, 1) := by decide +kernel
theorem dL_randomWorld_143 : decode cL_randomWorld 143 = .ok (.aload_n 3, 1) := by decide +kernel
theorem dL_randomWorld_144 : decode cL_randomWorld 144 = .ok (.getfield 112, 3) := by decide +kernel
theorem dL_randomWorld_147 : decode cL_randomWorld 147 = .ok (.arraylength, 1) := by decide +kernel
theorem dL_randomWorld_148 : decode cL_randomWorld 148 = .ok (.ifCond .ne 7, 3) := by decide +kernel
theorem dL_randomWorld_151 : decode cL_randomWorld 151 = .ok (.iconst 0, 1) := by decide +kernel
theorem dL_randomWorld_152 : decode cL_randomWorld 152 = .ok (.goto 8, 3) := by decide +kernel
theorem dL_randomWorld_155 : decode cL_randomWorld 155 = .ok (.aload_n 2, 1) := by decide +kernel
theorem dL_randomWorld_156 : decode cL_randomWorld 156 = .ok (.iconst 5, 1) := by decide +kernel
theorem dL_randomWorld_157 : decode cL_randomWorld 157 = .ok (.invokevirtual 107, 3) := by decide +kernel
theorem dL_randomWorld_160 : decode cL_randomWorld 160 = .ok (.anewarray 130, 3) := by decide +kernel
theorem dL_randomWorld_163 : decode cL_randomWorld 163 = .ok (.putfield 132, 3) := by decide +kernel
theorem dL_randomWorld_166 : decode cL_randomWorld 166 = .ok (.iconst 0, 1) := by decide +kernel
theorem dL_randomWorld_167 : decode cL_randomWorld 167 = .ok (.istore 4, 2) := by decide +kernel
theorem dL_randomWorld_169 : decode cL_randomWorld 169 = .ok (.iload 4, 2) := by decide +kernel
theorem dL_randomWorld_171 : decode cL_randomWorld 171 = .ok (.aload_n 3, 1) := by decide +kernel
theorem dL_randomWorld_172 : decode cL_randomWorld 172 = .ok (.getfield 132, 3) := by decide +kernel
theorem dL_randomWorld_175 : decode cL_randomWorld 175 = .ok (.arraylength, 1) := by decide +kernel
theorem dL_randomWorld_176 : decode cL_randomWorld 176 = .ok (.if_icmp .ge 351, 3) := by decide +kernel
theorem dL_randomWorld_179 : decode cL_randomWorld 179 = .ok (.new 130, 3) := by decide +kernel
theorem dL_randomWorld_182 : decode cL_randomWorld 182 = .ok (.dup, 1) := by decide +kernel
theorem dL_randomWorld_183 : decode cL_randomWorld 183 = .ok (.invokespecial 136, 3) := by decide +kernel
theorem dL_randomWorld_186 : decode cL_randomWorld 186 = .ok (.astore 5, 2) := by decide +kernel
theorem dL_randomWorld_188 : decode cL_randomWorld 188 = .ok (.aload 5, 2) := by decide +kernel
theorem dL_randomWorld_190 : decode cL_randomWorld 190 = .ok (.aload_n 2, 1) := by decide +kernel
theorem dL_randomWorld_191 : decode cL_randomWorld 191 = .ok (.aload_n 2, 1) := by decide +kernel
theorem dL_randomWorld_192 : decode cL_randomWorld 192 = .ok (.iconst 4, 1) := by decide +kernel
theorem dL_randomWorld_193 : decode cL_randomWorld 193 = .ok (.invokevirtual 107, 3) := by decide +kernel
theorem dL_randomWorld_196 : decode cL_randomWorld 196 = .ok (.ifCond .ne 8, 3) := by decide +kernel
theorem dL_randomWorld_199 : decode cL_randomWorld 199 = .ok (.bipush 30, 2) := by decide +kernel
theorem dL_randomWorld_201 : decode cL_randomWorld 201 = .ok (.goto 4, 3) := by decide +kernel
theorem dL_randomWorld_204 : decode cL_randomWorld 204 = .ok (.iconst 5, 1) := by decide +kernel
theorem dL_randomWorld_205 : decode cL_randomWorld 205 = .ok (.invokevirtual 107, 3) := by decide +kernel
theorem dL_randomWorld_208 : decode cL_randomWorld 208 = .ok (.putfield 137, 3) := by decide +kernel
theorem dL_randomWorld_211 : decode cL_randomWorld 211 = .ok (.aload 5, 2) := by decide +kernel
theorem dL_randomWorld_213 : decode cL_randomWorld 213 = .ok (.iconst 1, 1) := by decide +kernel
theorem dL_randomWorld_214 : decode cL_randomWorld 214 = .ok (.aload_n 2, 1) := by decide +kernel
theorem dL_randomWorld_215 : decode cL_randomWorld 215 = .ok (.iconst 3, 1) := by decide +kernel
theorem dL_randomWorld_216 : decode cL_randomWorld 216 = .ok (.invokevirtual 107, 3) := by decide +kernel
theorem dL_randomWorld_219 : decode cL_randomWorld 219 = .ok (.iadd, 1) := by decide +kernel
theorem dL_randomWorld_220 : decode cL_randomWorld 220 = .ok (.putfield 141, 3) := by decide +kernel
theorem dL_randomWorld_223 : decode cL_randomWorld 223 = .ok (.aload_n 3, 1) := by decide +kernel
theorem dL_randomWorld_224 : decode cL_randomWorld 224 = .ok (.getfield 132, 3) := by decide +kernel
theorem dL_randomWorld_227 : decode cL_randomWorld 227 = .ok (.iload 4, 2) := by decide +kernel
theorem dL_randomWorld_229 : decode cL_randomWorld 229 = .ok (.aload 5, 2) := by decide +kernel
theorem dL_randomWorld_231 : decode cL_randomWorld 231 = .ok (.aastore, 1) := by decide +kernel
theorem dL_randomWorld_232 : decode cL_randomWorld 232 = .ok (.aload_n 0, 1) := by decide +kernel
theorem dL_randomWorld_233 : decode cL_randomWorld 233 = .ok (.aload_n 1, 1) := by decide +kernel
theorem dL_randomWorld_234 : decode cL_randomWorld 234 = .ok (.ldc 144, 2) := by decide +kernel
theorem dL_randomWorld_236 : decode cL_randomWorld 236 = .ok (.aload 5, 2) := by decide +kernel
theorem dL_randomWorld_238 : decode cL_randomWorld 238 = .ok (.getfield 137, 3) := by decide +kernel
theorem dL_randomWorld_241 : decode cL_randomWorld 241 = .ok (.invokestatic 122, 3) := by decide +kernel
theorem dL_randomWorld_244 : decode cL_randomWorld 244 = .ok (.iconst 0, 1) := by decide +kernel
theorem dL_randomWorld_245 : decode cL_randomWorld 245 = .ok (.istore 6, 2) := by decide +kernel
theorem dL_randomWorld_247 : decode cL_randomWorld 247 = .ok (.iload 6, 2) := by decide +kernel
theorem dL_randomWorld_249 : decode cL_randomWorld 249 = .ok (.aload 5, 2) := by decide +kernel
theorem dL_randomWorld_251 : decode cL_randomWorld 251 = .ok (.getfield 141, 3) := by decide +kernel
theorem dL_randomWorld_254 : decode cL_randomWorld 254 = .ok (.if_icmp .ge 260, 3) := by decide +kernel
theorem dL_randomWorld_257 : decode cL_randomWorld 257 = .ok (.iload 6, 2) := by decide +kernel
theorem dL_randomWorld_259 : decode cL_randomWorld 259 = .ok (.ifCond .le 10, 3) := by decide +kernel
theorem dL_randomWorld_262 : decode cL_randomWorld 262 = .ok (.aload_n 0, 1) := by decide +kernel
theorem dL_randomWorld_263 : decode cL_randomWorld 263 = .ok (.aload_n 1, 1) := by decide +kernel
theorem dL_randomWorld_264 : decode cL_randomWorld 264 = .ok (.ldc 146, 2) := by decide +kernel
theorem dL_randomWorld_266 : decode cL_randomWorld 266 = .ok (.invokestatic 95, 3) := by decide +kernel
theorem dL_randomWorld_269 : decode cL_randomWorld 269 = .ok (.iconst 1, 1) := by decide +kernel
theorem dL_randomWorld_270 : decode cL_randomWorld 270 = .ok (.aload_n 2, 1) := by decide +kernel
theorem dL_randomWorld_271 : decode cL_randomWorld 271 = .ok (.aload_n 2, 1) := by decide +kernel
theorem dL_randomWorld_272 : decode cL_randomWorld 272 = .ok (.iconst 2, 1) := by decide +kernel
theorem dL_randomWorld_273 : decode cL_randomWorld 273 = .ok (.invokevirtual 107, 3) := by decide +kernel
theorem dL_randomWorld_276 : decode cL_randomWorld 276 = .ok (.ifCond .ne 7, 3) := by decide +kernel
theorem dL_randomWorld_279 : decode cL_randomWorld 279 = .ok (.iconst 1, 1) := by decide +kernel
theorem dL_randomWorld_280 : decode cL_randomWorld 280 = .ok (.goto 4, 3) := by decide +kernel
theorem dL_randomWorld_283 : decode cL_randomWorld 283 = .ok (.iconst 3, 1) := by decide +kernel
theorem dL_randomWorld_284 : decode cL_randomWorld 284 = .ok (.invokevirtual 107, 3) := by decide +kernel
theorem dL_randomWorld_287 : decode cL_randomWorld 287 = .ok (.iadd, 1) := by decide +kernel
theorem dL_randomWorld_288 : decode cL_randomWorld 288 = .ok (.istore 7, 2) := by decide +kernel
theorem dL_randomWorld_290 : decode cL_randomWorld 290 = .ok (.iconst 0, 1) := by decide +kernel
theorem dL_randomWorld_291 : decode cL_randomWorld 291 = .ok (.istore 8, 2) := by decide +kernel
theorem dL_randomWorld_293 : decode cL_randomWorld 293 = .ok (.iload 8, 2) := by decide +kernel
theorem dL_randomWorld_295 : decode cL_randomWorld 295 = .ok (.iload 7, 2) := by decide +kernel
theorem dL_randomWorld_297 : decode cL_randomWorld 297 = .ok (.if_icmp .ge 211, 3) := by decide +kernel
theorem dL_randomWorld_300 : decode cL_randomWorld 300 = .ok (.aload_n 2, 1) := by decide +kernel
theorem dL_randomWorld_301 : decode cL_randomWorld 301 = .ok (.iconst 2, 1) := by decide +kernel
theorem dL_randomWorld_302 : decode cL_randomWorld 302 = .ok (.invokevirtual 107, 3) := by decide +kernel
theorem dL_randomWorld_305 : decode cL_randomWorld 305 = .ok (.aload_n 2, 1) := by decide +kernel
theorem dL_randomWorld_306 : decode cL_randomWorld 306 = .ok (.iconst 4, 1) := by decide +kernel
theorem dL_randomWorld_307 : decode cL_randomWorld 307 = .ok (.invokevirtual 107, 3) := by decide +kernel
theorem dL_randomWorld_310 : decode cL_randomWorld 310 = .ok (.imul, 1) := by decide +kernel
theorem dL_randomWorld_311 : decode cL_randomWorld 311 = .ok (.istore 9, 2) := by decide +kernel
theorem dL_randomWorld_313 : decode cL_randomWorld 313 = .ok (.bipush 9, 2) := by decide +kernel
theorem dL_randomWorld_315 : decode cL_randomWorld 315 = .ok (.newarray .int, 2) := by decide +kernel
theorem dL_randomWorld_317 : decode cL_randomWorld 317 = .ok (.dup, 1) := by decide +kernel
theorem dL_randomWorld_318 : decode cL_randomWorld 318 = .ok (.iconst 0, 1) := by decide +kernel
theorem dL_randomWorld_319 : decode cL_randomWorld 319 = .ok (.iload 6, 2) := by decide +kernel
theorem dL_randomWorld_321 : decode cL_randomWorld 321 = .ok (.iastore, 1) := by decide +kernel
theorem dL_randomWorld_322 : decode cL_randomWorld 322 = .ok (.dup, 1) := by decide +kernel
theorem dL_randomWorld_323 : decode cL_randomWorld 323 = .ok (.iconst 1, 1) := by decide +kernel
theorem dL_randomWorld_324 : decode cL_randomWorld 324 = .ok (.aload_n 2, 1) := by decide +kernel
theorem dL_randomWorld_325 : decode cL_randomWorld 325 = .ok (.aload_n 3, 1) := by decide +kernel
theorem dL_randomWorld_326 : decode cL_randomWorld 326 = .ok (.getfield 112, 3) := by decide +kernel
theorem dL_randomWorld_329 : decode cL_randomWorld 329 = .ok (.arraylength, 1) := by decide +kernel
theorem dL_randomWorld_330 : decode cL_randomWorld 330 = .ok (.invokevirtual 107, 3) := by decide +kernel
theorem dL_randomWorld_333 : decode cL_randomWorld 333 = .ok (.iastore, 1) := by decide +kernel
theorem dL_randomWorld_334 : decode cL_randomWorld 334 = .ok (.dup, 1) := by decide +kernel
theorem dL_randomWorld_335 : decode cL_randomWorld 335 = .ok (.iconst 2, 1) := by decide +kernel
theorem dL_randomWorld_336 : decode cL_randomWorld 336 = .ok (.iconst 1, 1) := by decide +kernel
theorem dL_randomWorld_337 : decode cL_randomWorld 337 = .ok (.aload_n 2, 1) := by decide +kernel
theorem dL_randomWorld_338 : decode cL_randomWorld 338 = .ok (.aload_n 2, 1) := by decide +kernel
theorem dL_randomWorld_339 : decode cL_randomWorld 339 = .ok (.iconst 4, 1) := by decide +kernel
theorem dL_randomWorld_340 : decode cL_randomWorld 340 = .ok (.invokevirtual 107, 3) := by decide +kernel
theorem dL_randomWorld_343 : decode cL_randomWorld 343 = .ok (.ifCond .ne 8, 3) := by decide +kernel
theorem dL_randomWorld_346 : decode cL_randomWorld 346 = .ok (.bipush 30, 2) := by decide +kernel
theorem dL_randomWorld_348 : decode cL_randomWorld 348 = .ok (.goto 5, 3) := by decide +kernel
theorem dL_randomWorld_351 : decode cL_randomWorld 351 = .ok (.bipush 8, 2) := by decide +kernel
theorem dL_randomWorld_353 : decode cL_randomWorld 353 = .ok (.invokevirtual 107, 3) := by decide +kernel
theorem dL_randomWorld_356 : decode cL_randomWorld 356 = .ok (.iadd, 1) := by decide +kernel
theorem dL_randomWorld_357 : decode cL_randomWorld 357 = .ok (.iastore, 1) := by decide +kernel
theorem dL_randomWorld_358 : decode cL_randomWorld 358 = .ok (.dup, 1) := by decide +kernel
theorem dL_randomWorld_359 : decode cL_randomWorld 359 = .ok (.iconst 3, 1) := by decide +kernel
theorem dL_randomWorld_360 : decode cL_randomWorld 360 = .ok (.iconst 1, 1) := by decide +kernel
theorem dL_randomWorld_361 : decode cL_randomWorld 361 = .ok (.aload_n 2, 1) := by decide +kernel
theorem dL_randomWorld_362 : decode cL_randomWorld 362 = .ok (.iconst 4, 1) := by decide +kernel
theorem dL_randomWorld_363 : decode cL_randomWorld 363 = .ok (.invokevirtual 107, 3) := by decide +kernel
theorem dL_randomWorld_366 : decode cL_randomWorld 366 = .ok (.iadd, 1) := by decide +kernel
theorem dL_randomWorld_367 : decode cL_randomWorld 367 = .ok (.iastore, 1) := by decide +kernel
theorem dL_randomWorld_368 : decode cL_randomWorld 368 = .ok (.dup, 1) := by decide +kernel
theorem dL_randomWorld_369 : decode cL_randomWorld 369 = .ok (.iconst 4, 1) := by decide +kernel
theorem dL_randomWorld_370 : decode cL_randomWorld 370 = .ok (.iconst 0, 1) := by decide +kernel
theorem dL_randomWorld_371 : decode cL_randomWorld 371 = .ok (.iastore, 1) := by decide +kernel
theorem dL_randomWorld_372 : decode cL_randomWorld 372 = .ok (.dup, 1) := by decide +kernel
theorem dL_randomWorld_373 : decode cL_randomWorld 373 = .ok (.iconst 5, 1) := by decide +kernel
theorem dL_randomWorld_374 : decode cL_randomWorld 374 = .ok (.aload_n 2, 1) := by decide +kernel
theorem dL_randomWorld_375 : decode cL_randomWorld 375 = .ok (.iconst 2, 1) := by decide +kernel
theorem dL_randomWorld_376 : decode cL_randomWorld 376 = .ok (.invokevirtual 107, 3) := by decide +kernel
theorem dL_randomWorld_379 : decode cL_randomWorld 379 = .ok (.aload_n 2, 1) := by decide +kernel
theorem dL_randomWorld_380 : decode cL_randomWorld 380 = .ok (.bipush 7, 2) := by decide +kernel
theorem dL_randomWorld_382 : decode cL_randomWorld 382 = .ok (.invokevirtual 107, 3) := by decide +kernel
theorem dL_randomWorld_385 : decode cL_randomWorld 385 = .ok (.imul, 1) := by decide +kernel
theorem dL_randomWorld_386 : decode cL_randomWorld 386 = .ok (.iastore, 1) := by decide +kernel
theorem dL_randomWorld_387 : decode cL_randomWorld 387 = .ok (.dup, 1) := by decide +kernel
theorem dL_randomWorld_388 : decode cL_randomWorld 388 = .ok (.bipush 6, 2) := by decide +kernel
theorem dL_randomWorld_390 : decode cL_randomWorld 390 = .ok (.iload 9, 2) := by decide +kernel
theorem dL_randomWorld_392 : decode cL_randomWorld 392 = .ok (.iastore, 1) := by decide +kernel
theorem dL_randomWorld_393 : decode cL_randomWorld 393 = .ok (.dup, 1) := by decide +kernel
theorem dL_randomWorld_394 : decode cL_randomWorld 394 = .ok (.bipush 7, 2) := by decide +kernel
theorem dL_randomWorld_396 : decode cL_randomWorld 396 = .ok (.iload 9, 2) := by decide +kernel
theorem dL_randomWorld_398 : decode cL_randomWorld 398 = .ok (.iastore, 1) := by decide +kernel
theorem dL_randomWorld_399 : decode cL_randomWorld 399 = .ok (.dup, 1) := by decide +kernel
theorem dL_randomWorld_400 : decode cL_randomWorld 400 = .ok (.bipush 8, 2) := by decide +kernel
theorem dL_randomWorld_402 : decode cL_randomWorld 402 = .ok (.iconst 0, 1) := by decide +kernel
theorem dL_randomWorld_403 : decode cL_randomWorld 403 = .ok (.iastore, 1) := by decide +kernel
theorem dL_randomWorld_404 : decode cL_randomWorld 404 = .ok (.astore 10, 2) := by decide +kernel
theorem dL_randomWorld_406 : decode cL_randomWorld 406 = .ok (.aload 5, 2) := by decide +kernel
theorem dL_randomWorld_408 : decode cL_randomWorld 408 = .ok (.aload 5, 2) := by decide +kernel
theorem dL_randomWorld_410 : decode cL_randomWorld 410 = .ok (.getfield 148, 3) := by decide +kernel
theorem dL_randomWorld_413 : decode cL_randomWorld 413 = .ok (.aload 10, 2) := by decide +kernel
theorem dL_randomWorld_415 : decode cL_randomWorld 415 = .ok (.invokestatic 116, 3) := by decide +kernel
theorem dL_randomWorld_418 : decode cL_randomWorld 418 = .ok (.putfield 148, 3) := by decide +kernel
theorem dL_randomWorld_421 : decode cL_randomWorld 421 = .ok (.aload_n 0, 1) := by decide +kernel
theorem dL_randomWorld_422 : decode cL_randomWorld 422 = .ok (.aload_n 1, 1) := by decide +kernel
theorem dL_randomWorld_423 : decode cL_randomWorld 423 = .ok (.iload 8, 2) := by decide +kernel
theorem dL_randomWorld_425 : decode cL_randomWorld 425 = .ok (.ifCond .le 8, 3) := by decide +kernel
theorem dL_randomWorld_428 : decode cL_randomWorld 428 = .ok (.ldc 151, 2) := by decide +kernel
theorem dL_randomWorld_430 : decode cL_randomWorld 430 = .ok (.goto 5, 3) := by decide +kernel
theorem dL_randomWorld_433 : decode cL_randomWorld 433 = .ok (.ldc 126, 2) := by decide +kernel
theorem dL_randomWorld_435 : decode cL_randomWorld 435 = .ok (.aload 10, 2) := by decide +kernel
theorem dL_randomWorld_437 : decode cL_randomWorld 437 = .ok (.iconst 1, 1) := by decide +kernel
theorem dL_randomWorld_438 : decode cL_randomWorld 438 = .ok (.iaload, 1) := by decide +kernel
theorem dL_randomWorld_439 : decode cL_randomWorld 439 = .ok (.invokestatic 122, 3) := by decide +kernel
theorem dL_randomWorld_442 : decode cL_randomWorld 442 = .ok (.aload_n 0, 1) := by decide +kernel
theorem dL_randomWorld_443 : decode cL_randomWorld 443 = .ok (.aload_n 1, 1) := by decide +kernel
theorem dL_randomWorld_444 : decode cL_randomWorld 444 = .ok (.ldc 153, 2) := by decide +kernel
theorem dL_randomWorld_446 : decode cL_randomWorld 446 = .ok (.aload 10, 2) := by decide +kernel
theorem dL_randomWorld_448 : decode cL_randomWorld 448 = .ok (.iconst 2, 1) := by decide +kernel
theorem dL_randomWorld_449 : decode cL_randomWorld 449 = .ok (.iaload, 1) := by decide +kernel
theorem dL_randomWorld_450 : decode cL_randomWorld 450 = .ok (.invokestatic 122, 3) := by decide +kernel
theorem dL_randomWorld_453 : decode cL_randomWorld 453 = .ok (.aload_n 0, 1) := by decide +kernel
theorem dL_randomWorld_454 : decode cL_randomWorld 454 = .ok (.aload_n 1, 1) := by decide +kernel
theorem dL_randomWorld_455 : decode cL_randomWorld 455 = .ok (.ldc 155, 2) := by decide +kernel
theorem dL_randomWorld_457 : decode cL_randomWorld 457 = .ok (.aload 10, 2) := by decide +kernel
theorem dL_randomWorld_459 : decode cL_randomWorld 459 = .ok (.iconst 3, 1) := by decide +kernel
theorem dL_randomWorld_460 : decode cL_randomWorld 460 = .ok (.iaload, 1) := by decide +kernel
theorem dL_randomWorld_461 : decode cL_randomWorld 461 = .ok (.invokestatic 122, 3) := by decide +kernel
theorem dL_randomWorld_464 : decode cL_randomWorld 464 = .ok (.aload 10, 2) := by decide +kernel
theorem dL_randomWorld_466 : decode cL_randomWorld 466 = .ok (.iconst 5, 1) := by decide +kernel
theorem dL_randomWorld_467 : decode cL_randomWorld 467 = .ok (.iaload, 1) := by decide +kernel
theorem dL_randomWorld_468 : decode cL_randomWorld 468 = .ok (.ifCond .le 14, 3) := by decide +kernel
theorem dL_randomWorld_471 : decode cL_randomWorld 471 = .ok (.aload_n 0, 1) := by decide +kernel
theorem dL_randomWorld_472 : decode cL_randomWorld 472 = .ok (.aload_n 1, 1) := by decide +kernel
theorem dL_randomWorld_473 : decode cL_randomWorld 473 = .ok (.ldc 157, 2) := by decide +kernel
theorem dL_randomWorld_475 : decode cL_randomWorld 475 = .ok (.aload 10, 2) := by decide +kernel
theorem dL_randomWorld_477 : decode cL_randomWorld 477 = .ok (.iconst 5, 1) := by decide +kernel
theorem dL_randomWorld_478 : decode cL_randomWorld 478 = .ok (.iaload, 1) := by decide +kernel
theorem dL_randomWorld_479 : decode cL_randomWorld 479 = .ok (.invokestatic 122, 3) := by decide +kernel
theorem dL_randomWorld_482 : decode cL_randomWorld 482 = .ok (.aload 10, 2) := by decide +kernel
theorem dL_randomWorld_484 : decode cL_randomWorld 484 = .ok (.bipush 6, 2) := by decide +kernel
theorem dL_randomWorld_486 : decode cL_randomWorld 486 = .ok (.iaload, 1) := by decide +kernel
theorem dL_randomWorld_487 : decode cL_randomWorld 487 = .ok (.ifCond .le 15, 3) := by decide +kernel
theorem dL_randomWorld_490 : decode cL_randomWorld 490 = .ok (.aload_n 0, 1) := by decide +kernel
theorem dL_randomWorld_491 : decode cL_randomWorld 491 = .ok (.aload_n 1, 1) := by decide +kernel
theorem dL_randomWorld_492 : decode cL_randomWorld 492 = .ok (.ldc 159, 2) := by decide +kernel
theorem dL_randomWorld_494 : decode cL_randomWorld 494 = .ok (.aload 10, 2) := by decide +kernel
theorem dL_randomWorld_496 : decode cL_randomWorld 496 = .ok (.bipush 6, 2) := by decide +kernel
theorem dL_randomWorld_498 : decode cL_randomWorld 498 = .ok (.iaload, 1) := by decide +kernel
theorem dL_randomWorld_499 : decode cL_randomWorld 499 = .ok (.invokestatic 122, 3) := by decide +kernel
theorem dL_randomWorld_502 : decode cL_randomWorld 502 = .ok (.iinc 8 1, 3) := by decide +kernel
theorem dL_randomWorld_505 : decode cL_randomWorld 505 = .ok (.goto (-212), 3) := by decide +kernel
theorem dL_randomWorld_508 : decode cL_randomWorld 508 = .ok (.iinc 6 1, 3) := by decide +kernel
theorem dL_randomWorld_511 : decode cL_randomWorld 511 = .ok (.goto (-264), 3) := by decide +kernel
theorem dL_randomWorld_514 : decode cL_randomWorld 514 = .ok (.aload_n 0, 1) := by decide +kernel
theorem dL_randomWorld_515 : decode cL_randomWorld 515 = .ok (.aload_n 1, 1) := by decide +kernel
theorem dL_randomWorld_516 : decode cL_randomWorld 516 = .ok (.ldc 128, 2) := by decide +kernel
theorem dL_randomWorld_518 : decode cL_randomWorld 518 = .ok (.invokestatic 95, 3) := by decide +kernel
theorem dL_randomWorld_521 : decode cL_randomWorld 521 = .ok (.iinc 4 1, 3) := by decide +kernel
theorem dL_randomWorld_524 : decode cL_randomWorld 524 = .ok (.goto (-355), 3) := by decide +kernel
theorem dL_randomWorld_527 : decode cL_randomWorld 527 = .ok (.aload_n 2, 1) := by decide +kernel
theorem dL_randomWorld_528 : decode cL_randomWorld 528 = .ok (.iconst 2, 1) := by decide +kernel
theorem dL_randomWorld_529 : decode cL_randomWorld 529 = .ok (.invokevirtual 107, 3) := by decide +kernel
theorem dL_randomWorld_532 : decode cL_randomWorld 532 = .ok (.ifCond .ne 33, 3) := by decide +kernel
theorem dL_randomWorld_535 : decode cL_randomWorld 535 = .ok (.aload_n 3, 1) := by decide +kernel
theorem dL_randomWorld_536 : decode cL_randomWorld 536 = .ok (.iconst 1, 1) := by decide +kernel
theorem dL_randomWorld_537 : decode cL_randomWorld 537 = .ok (.aload_n 2, 1) := by decide +kernel
theorem dL_randomWorld_538 : decode cL_randomWorld 538 = .ok (.bipush 6, 2) := by decide +kernel
theorem dL_randomWorld_540 : decode cL_randomWorld 540 = .ok (.invokevirtual 107, 3) := by decide +kernel
theorem dL_randomWorld_543 : decode cL_randomWorld 543 = .ok (.iadd, 1) := by decide +kernel
theorem dL_randomWorld_544 : decode cL_randomWorld 544 = .ok (.putfield 161, 3) := by decide +kernel
theorem dL_randomWorld_547 : decode cL_randomWorld 547 = .ok (.aload_n 0, 1) := by decide +kernel
theorem dL_randomWorld_548 : decode cL_randomWorld 548 = .ok (.aload_n 1, 1) := by decide +kernel
theorem dL_randomWorld_549 : decode cL_randomWorld 549 = .ok (.ldc 164, 2) := by decide +kernel
theorem dL_randomWorld_551 : decode cL_randomWorld 551 = .ok (.aload_n 3, 1) := by decide +kernel
theorem dL_randomWorld_552 : decode cL_randomWorld 552 = .ok (.getfield 161, 3) := by decide +kernel
theorem dL_randomWorld_555 : decode cL_randomWorld 555 = .ok (.invokestatic 122, 3) := by decide +kernel
theorem dL_randomWorld_558 : decode cL_randomWorld 558 = .ok (.aload_n 0, 1) := by decide +kernel
theorem dL_randomWorld_559 : decode cL_randomWorld 559 = .ok (.aload_n 1, 1) := by decide +kernel
theorem dL_randomWorld_560 : decode cL_randomWorld 560 = .ok (.ldc 128, 2) := by decide +kernel
theorem dL_randomWorld_562 : decode cL_randomWorld 562 = .ok (.invokestatic 95, 3) := by decide +kernel
theorem dL_randomWorld_565 : decode cL_randomWorld 565 = .ok (.aload_n 2, 1) := by decide +kernel
theorem dL_randomWorld_566 : decode cL_randomWorld 566 = .ok (.iconst 2, 1) := by decide +kernel
theorem dL_randomWorld_567 : decode cL_randomWorld 567 = .ok (.invokevirtual 107, 3) := by decide +kernel
theorem dL_randomWorld_570 : decode cL_randomWorld 570 = .ok (.ifCond .ne 32, 3) := by decide +kernel
theorem dL_randomWorld_573 : decode cL_randomWorld 573 = .ok (.aload_n 3, 1) := by decide +kernel
theorem dL_randomWorld_574 : decode cL_randomWorld 574 = .ok (.iconst 1, 1) := by decide +kernel
theorem dL_randomWorld_575 : decode cL_randomWorld 575 = .ok (.aload_n 2, 1) := by decide +kernel
theorem dL_randomWorld_576 : decode cL_randomWorld 576 = .ok (.iconst 4, 1) := by decide +kernel
theorem dL_randomWorld_577 : decode cL_randomWorld 577 = .ok (.invokevirtual 107, 3) := by decide +kernel
theorem dL_randomWorld_580 : decode cL_randomWorld 580 = .ok (.iadd, 1) := by decide +kernel
theorem dL_randomWorld_581 : decode cL_randomWorld 581 = .ok (.putfield 166, 3) := by decide +kernel
theorem dL_randomWorld_584 : decode cL_randomWorld 584 = .ok (.aload_n 0, 1) := by decide +kernel
theorem dL_randomWorld_585 : decode cL_randomWorld 585 = .ok (.aload_n 1, 1) := by decide +kernel
theorem dL_randomWorld_586 : decode cL_randomWorld 586 = .ok (.ldc 169, 2) := by decide +kernel
theorem dL_randomWorld_588 : decode cL_randomWorld 588 = .ok (.aload_n 3, 1) := by decide +kernel
theorem dL_randomWorld_589 : decode cL_randomWorld 589 = .ok (.getfield 166, 3) := by decide +kernel
theorem dL_randomWorld_592 : decode cL_randomWorld 592 = .ok (.invokestatic 122, 3) := by decide +kernel
theorem dL_randomWorld_595 : decode cL_randomWorld 595 = .ok (.aload_n 0, 1) := by decide +kernel
theorem dL_randomWorld_596 : decode cL_randomWorld 596 = .ok (.aload_n 1, 1) := by decide +kernel
theorem dL_randomWorld_597 : decode cL_randomWorld 597 = .ok (.ldc 170, 2) := by decide +kernel
theorem dL_randomWorld_599 : decode cL_randomWorld 599 = .ok (.invokestatic 95, 3) := by decide +kernel
theorem dL_randomWorld_602 : decode cL_randomWorld 602 = .ok (.aload_n 0, 1) := by decide +kernel
theorem dL_randomWorld_603 : decode cL_randomWorld 603 = .ok (.aload_n 1, 1) := by decide +kernel
theorem dL_randomWorld_604 : decode cL_randomWorld 604 = .ok (.invokestatic 172, 3) := by decide +kernel
theorem dL_randomWorld_607 : decode cL_randomWorld 607 = .ok (.aload_n 3, 1) := by decide +kernel
theorem dL_randomWorld_608 : decode cL_randomWorld 608 = .ok (.getfield 132, 3) := by decide +kernel
theorem dL_randomWorld_611 : decode cL_randomWorld 611 = .ok (.arraylength, 1) := by decide +kernel
theorem dL_randomWorld_612 : decode cL_randomWorld 612 = .ok (.if_icmp .ne 7, 3) := by decide +kernel
theorem dL_randomWorld_615 : decode cL_randomWorld 615 = .ok (.aload_n 3, 1) := by decide +kernel
theorem dL_randomWorld_616 : decode cL_randomWorld 616 = .ok (.goto 4, 3) := by decide +kernel
theorem dL_randomWorld_619 : decode cL_randomWorld 619 = .ok (.aconst_null, 1) := by decide +kernel
theorem dL_randomWorld_620 : decode cL_randomWorld 620 = .ok (.areturn, 1) := by decide +kernel
theorem dL_agrees_0 : decode cL_agrees 0 = .ok (.aload_n 0, 1) := by decide +kernel
theorem dL_agrees_1 : decode cL_agrees 1 = .ok (.invokevirtual 176, 3) := by decide +kernel
theorem dL_agrees_4 : decode cL_agrees 4 = .ok (.aload_n 1, 1) := by decide +kernel
theorem dL_agrees_5 : decode cL_agrees 5 = .ok (.invokevirtual 180, 3) := by decide +kernel
theorem dL_agrees_8 : decode cL_agrees 8 = .ok (.lcmp, 1) := by decide +kernel
theorem dL_agrees_9 : decode cL_agrees 9 = .ok (.ifCond .ne 18, 3) := by decide +kernel
theorem dL_agrees_12 : decode cL_agrees 12 = .ok (.aload_n 0, 1) := by decide +kernel
theorem dL_agrees_13 : decode cL_agrees 13 = .ok (.bipush 10, 2) := by decide +kernel
theorem dL_agrees_15 : decode cL_agrees 15 = .ok (.invokestatic 181, 3) := by decide +kernel
theorem dL_agrees_18 : decode cL_agrees 18 = .ok (.ldc 42, 2) := by decide +kernel
theorem dL_agrees_20 : decode cL_agrees 20 = .ok (.if_icmp .ne 7, 3) := by decide +kernel
theorem dL_agrees_23 : decode cL_agrees 23 = .ok (.iconst 1, 1) := by decide +kernel
theorem dL_agrees_24 : decode cL_agrees 24 = .ok (.goto 4, 3) := by decide +kernel
theorem dL_agrees_27 : decode cL_agrees 27 = .ok (.iconst 0, 1) := by decide +kernel
theorem dL_agrees_28 : decode cL_agrees 28 = .ok (.istore_n 2, 1) := by decide +kernel
theorem dL_agrees_29 : decode cL_agrees 29 = .ok (.iconst 0, 1) := by decide +kernel
theorem dL_agrees_30 : decode cL_agrees 30 = .ok (.istore_n 3, 1) := by decide +kernel
theorem dL_agrees_31 : decode cL_agrees 31 = .ok (.iload_n 3, 1) := by decide +kernel
theorem dL_agrees_32 : decode cL_agrees 32 = .ok (.bipush 10, 2) := by decide +kernel
theorem dL_agrees_34 : decode cL_agrees 34 = .ok (.if_icmp .ge 32, 3) := by decide +kernel
theorem dL_agrees_37 : decode cL_agrees 37 = .ok (.iload_n 2, 1) := by decide +kernel
theorem dL_agrees_38 : decode cL_agrees 38 = .ok (.ifCond .eq 28, 3) := by decide +kernel
theorem dL_agrees_41 : decode cL_agrees 41 = .ok (.aload_n 0, 1) := by decide +kernel
theorem dL_agrees_42 : decode cL_agrees 42 = .ok (.iload_n 3, 1) := by decide +kernel
theorem dL_agrees_43 : decode cL_agrees 43 = .ok (.invokestatic 181, 3) := by decide +kernel
theorem dL_agrees_46 : decode cL_agrees 46 = .ok (.aload_n 1, 1) := by decide +kernel
theorem dL_agrees_47 : decode cL_agrees 47 = .ok (.iload_n 3, 1) := by decide +kernel
theorem dL_agrees_48 : decode cL_agrees 48 = .ok (.invokevirtual 183, 3) := by decide +kernel
theorem dL_agrees_51 : decode cL_agrees 51 = .ok (.if_icmp .ne 7, 3) := by decide +kernel
theorem dL_agrees_54 : decode cL_agrees 54 = .ok (.iconst 1, 1) := by decide +kernel
theorem dL_agrees_55 : decode cL_agrees 55 = .ok (.goto 4, 3) := by decide +kernel
theorem dL_agrees_58 : decode cL_agrees 58 = .ok (.iconst 0, 1) := by decide +kernel
theorem dL_agrees_59 : decode cL_agrees 59 = .ok (.istore_n 2, 1) := by decide +kernel
theorem dL_agrees_60 : decode cL_agrees 60 = .ok (.iinc 3 1, 3) := by decide +kernel
theorem dL_agrees_63 : decode cL_agrees 63 = .ok (.goto (-32), 3) := by decide +kernel
theorem dL_agrees_66 : decode cL_agrees 66 = .ok (.iconst 0, 1) := by decide +kernel
theorem dL_agrees_67 : decode cL_agrees 67 = .ok (.istore_n 3, 1) := by decide +kernel
theorem dL_agrees_68 : decode cL_agrees 68 = .ok (.iload_n 3, 1) := by decide +kernel
theorem dL_agrees_69 : decode cL_agrees 69 = .ok (.aload_n 1, 1) := by decide +kernel
theorem dL_agrees_70 : decode cL_agrees 70 = .ok (.getfield 112, 3) := by decide +kernel
theorem dL_agrees_73 : decode cL_agrees 73 = .ok (.arraylength, 1) := by decide +kernel
theorem dL_agrees_74 : decode cL_agrees 74 = .ok (.if_icmp .ge 56, 3) := by decide +kernel
theorem dL_agrees_77 : decode cL_agrees 77 = .ok (.iload_n 2, 1) := by decide +kernel
theorem dL_agrees_78 : decode cL_agrees 78 = .ok (.ifCond .eq 52, 3) := by decide +kernel
theorem dL_agrees_81 : decode cL_agrees 81 = .ok (.iconst 0, 1) := by decide +kernel
theorem dL_agrees_82 : decode cL_agrees 82 = .ok (.istore 4, 2) := by decide +kernel
theorem dL_agrees_84 : decode cL_agrees 84 = .ok (.iload 4, 2) := by decide +kernel
theorem dL_agrees_86 : decode cL_agrees 86 = .ok (.bipush 6, 2) := by decide +kernel
theorem dL_agrees_88 : decode cL_agrees 88 = .ok (.if_icmp .ge 36, 3) := by decide +kernel
theorem dL_agrees_91 : decode cL_agrees 91 = .ok (.iload_n 2, 1) := by decide +kernel
theorem dL_agrees_92 : decode cL_agrees 92 = .ok (.ifCond .eq 32, 3) := by decide +kernel
theorem dL_agrees_95 : decode cL_agrees 95 = .ok (.aload_n 0, 1) := by decide +kernel
theorem dL_agrees_96 : decode cL_agrees 96 = .ok (.iload_n 3, 1) := by decide +kernel
theorem dL_agrees_97 : decode cL_agrees 97 = .ok (.iload 4, 2) := by decide +kernel
theorem dL_agrees_99 : decode cL_agrees 99 = .ok (.invokestatic 186, 3) := by decide +kernel
theorem dL_agrees_102 : decode cL_agrees 102 = .ok (.aload_n 1, 1) := by decide +kernel
theorem dL_agrees_103 : decode cL_agrees 103 = .ok (.iload_n 3, 1) := by decide +kernel
theorem dL_agrees_104 : decode cL_agrees 104 = .ok (.iload 4, 2) := by decide +kernel
theorem dL_agrees_106 : decode cL_agrees 106 = .ok (.invokevirtual 189, 3) := by decide +kernel
theorem dL_agrees_109 : decode cL_agrees 109 = .ok (.if_icmp .ne 7, 3) := by decide +kernel
theorem dL_agrees_112 : decode cL_agrees 112 = .ok (.iconst 1, 1) := by decide +kernel
theorem dL_agrees_113 : decode cL_agrees 113 = .ok (.goto 4, 3) := by decide +kernel
theorem dL_agrees_116 : decode cL_agrees 116 = .ok (.iconst 0, 1) := by decide +kernel
theorem dL_agrees_117 : decode cL_agrees 117 = .ok (.istore_n 2, 1) := by decide +kernel
theorem dL_agrees_118 : decode cL_agrees 118 = .ok (.iinc 4 1, 3) := by decide +kernel
theorem dL_agrees_121 : decode cL_agrees 121 = .ok (.goto (-37), 3) := by decide +kernel
theorem dL_agrees_124 : decode cL_agrees 124 = .ok (.iinc 3 1, 3) := by decide +kernel
theorem dL_agrees_127 : decode cL_agrees 127 = .ok (.goto (-59), 3) := by decide +kernel
theorem dL_agrees_130 : decode cL_agrees 130 = .ok (.iconst 0, 1) := by decide +kernel
theorem dL_agrees_131 : decode cL_agrees 131 = .ok (.istore_n 3, 1) := by decide +kernel
theorem dL_agrees_132 : decode cL_agrees 132 = .ok (.iload_n 3, 1) := by decide +kernel
theorem dL_agrees_133 : decode cL_agrees 133 = .ok (.aload_n 1, 1) := by decide +kernel
theorem dL_agrees_134 : decode cL_agrees 134 = .ok (.getfield 132, 3) := by decide +kernel
theorem dL_agrees_137 : decode cL_agrees 137 = .ok (.arraylength, 1) := by decide +kernel
theorem dL_agrees_138 : decode cL_agrees 138 = .ok (.if_icmp .ge 159, 3) := by decide +kernel
theorem dL_agrees_141 : decode cL_agrees 141 = .ok (.iload_n 2, 1) := by decide +kernel
theorem dL_agrees_142 : decode cL_agrees 142 = .ok (.ifCond .eq 155, 3) := by decide +kernel
theorem dL_agrees_145 : decode cL_agrees 145 = .ok (.iconst 0, 1) := by decide +kernel
theorem dL_agrees_146 : decode cL_agrees 146 = .ok (.istore 4, 2) := by decide +kernel
theorem dL_agrees_148 : decode cL_agrees 148 = .ok (.iload 4, 2) := by decide +kernel
theorem dL_agrees_150 : decode cL_agrees 150 = .ok (.bipush 7, 2) := by decide +kernel
theorem dL_agrees_152 : decode cL_agrees 152 = .ok (.if_icmp .ge 36, 3) := by decide +kernel
theorem dL_agrees_155 : decode cL_agrees 155 = .ok (.iload_n 2, 1) := by decide +kernel
theorem dL_agrees_156 : decode cL_agrees 156 = .ok (.ifCond .eq 32, 3) := by decide +kernel
theorem dL_agrees_159 : decode cL_agrees 159 = .ok (.aload_n 0, 1) := by decide +kernel
theorem dL_agrees_160 : decode cL_agrees 160 = .ok (.iload_n 3, 1) := by decide +kernel
theorem dL_agrees_161 : decode cL_agrees 161 = .ok (.iload 4, 2) := by decide +kernel
theorem dL_agrees_163 : decode cL_agrees 163 = .ok (.invokestatic 192, 3) := by decide +kernel
theorem dL_agrees_166 : decode cL_agrees 166 = .ok (.aload_n 1, 1) := by decide +kernel
theorem dL_agrees_167 : decode cL_agrees 167 = .ok (.iload_n 3, 1) := by decide +kernel
theorem dL_agrees_168 : decode cL_agrees 168 = .ok (.iload 4, 2) := by decide +kernel
theorem dL_agrees_170 : decode cL_agrees 170 = .ok (.invokevirtual 194, 3) := by decide +kernel
theorem dL_agrees_173 : decode cL_agrees 173 = .ok (.if_icmp .ne 7, 3) := by decide +kernel
theorem dL_agrees_176 : decode cL_agrees 176 = .ok (.iconst 1, 1) := by decide +kernel
theorem dL_agrees_177 : decode cL_agrees 177 = .ok (.goto 4, 3) := by decide +kernel
theorem dL_agrees_180 : decode cL_agrees 180 = .ok (.iconst 0, 1) := by decide +kernel
theorem dL_agrees_181 : decode cL_agrees 181 = .ok (.istore_n 2, 1) := by decide +kernel
theorem dL_agrees_182 : decode cL_agrees 182 = .ok (.iinc 4 1, 3) := by decide +kernel
theorem dL_agrees_185 : decode cL_agrees 185 = .ok (.goto (-37), 3) := by decide +kernel
theorem dL_agrees_188 : decode cL_agrees 188 = .ok (.aload_n 1, 1) := by decide +kernel
theorem dL_agrees_189 : decode cL_agrees 189 = .ok (.getfield 132, 3) := by decide +kernel
theorem dL_agrees_192 : decode cL_agrees 192 = .ok (.iload_n 3, 1) := by decide +kernel
theorem dL_agrees_193 : decode cL_agrees 193 = .ok (.aaload, 1) := by decide +kernel
theorem dL_agrees_194 : decode cL_agrees 194 = .ok (.getfield 148, 3) := by decide +kernel
theorem dL_agrees_197 : decode cL_agrees 197 = .ok (.astore 4, 2) := by decide +kernel
theorem dL_agrees_199 : decode cL_agrees 199 = .ok (.iconst 0, 1) := by decide +kernel
theorem dL_agrees_200 : decode cL_agrees 200 = .ok (.istore 5, 2) := by decide +kernel
theorem dL_agrees_202 : decode cL_agrees 202 = .ok (.iload 5, 2) := by decide +kernel
theorem dL_agrees_204 : decode cL_agrees 204 = .ok (.aload 4, 2) := by decide +kernel
theorem dL_agrees_206 : decode cL_agrees 206 = .ok (.arraylength, 1) := by decide +kernel
theorem dL_agrees_207 : decode cL_agrees 207 = .ok (.if_icmp .ge 59, 3) := by decide +kernel
theorem dL_agrees_210 : decode cL_agrees 210 = .ok (.iload_n 2, 1) := by decide +kernel
theorem dL_agrees_211 : decode cL_agrees 211 = .ok (.ifCond .eq 55, 3) := by decide +kernel
theorem dL_agrees_214 : decode cL_agrees 214 = .ok (.iconst 0, 1) := by decide +kernel
theorem dL_agrees_215 : decode cL_agrees 215 = .ok (.istore 6, 2) := by decide +kernel
theorem dL_agrees_217 : decode cL_agrees 217 = .ok (.iload 6, 2) := by decide +kernel
theorem dL_agrees_219 : decode cL_agrees 219 = .ok (.bipush 7, 2) := by decide +kernel
theorem dL_agrees_221 : decode cL_agrees 221 = .ok (.if_icmp .ge 39, 3) := by decide +kernel
theorem dL_agrees_224 : decode cL_agrees 224 = .ok (.iload_n 2, 1) := by decide +kernel
theorem dL_agrees_225 : decode cL_agrees 225 = .ok (.ifCond .eq 35, 3) := by decide +kernel
theorem dL_agrees_228 : decode cL_agrees 228 = .ok (.aload_n 0, 1) := by decide +kernel
theorem dL_agrees_229 : decode cL_agrees 229 = .ok (.iload_n 3, 1) := by decide +kernel
theorem dL_agrees_230 : decode cL_agrees 230 = .ok (.iload 5, 2) := by decide +kernel
theorem dL_agrees_232 : decode cL_agrees 232 = .ok (.iload 6, 2) := by decide +kernel
theorem dL_agrees_234 : decode cL_agrees 234 = .ok (.invokestatic 197, 3) := by decide +kernel
theorem dL_agrees_237 : decode cL_agrees 237 = .ok (.aload 4, 2) := by decide +kernel
theorem dL_agrees_239 : decode cL_agrees 239 = .ok (.iload 5, 2) := by decide +kernel
theorem dL_agrees_241 : decode cL_agrees 241 = .ok (.aaload, 1) := by decide +kernel
theorem dL_agrees_242 : decode cL_agrees 242 = .ok (.iload 6, 2) := by decide +kernel
theorem dL_agrees_244 : decode cL_agrees 244 = .ok (.iaload, 1) := by decide +kernel
theorem dL_agrees_245 : decode cL_agrees 245 = .ok (.if_icmp .ne 7, 3) := by decide +kernel
theorem dL_agrees_248 : decode cL_agrees 248 = .ok (.iconst 1, 1) := by decide +kernel
theorem dL_agrees_249 : decode cL_agrees 249 = .ok (.goto 4, 3) := by decide +kernel
theorem dL_agrees_252 : decode cL_agrees 252 = .ok (.iconst 0, 1) := by decide +kernel
theorem dL_agrees_253 : decode cL_agrees 253 = .ok (.istore_n 2, 1) := by decide +kernel
theorem dL_agrees_254 : decode cL_agrees 254 = .ok (.iinc 6 1, 3) := by decide +kernel
theorem dL_agrees_257 : decode cL_agrees 257 = .ok (.goto (-40), 3) := by decide +kernel
theorem dL_agrees_260 : decode cL_agrees 260 = .ok (.iinc 5 1, 3) := by decide +kernel
theorem dL_agrees_263 : decode cL_agrees 263 = .ok (.goto (-61), 3) := by decide +kernel
theorem dL_agrees_266 : decode cL_agrees 266 = .ok (.iload_n 2, 1) := by decide +kernel
theorem dL_agrees_267 : decode cL_agrees 267 = .ok (.ifCond .eq 22, 3) := by decide +kernel
theorem dL_agrees_270 : decode cL_agrees 270 = .ok (.aload_n 0, 1) := by decide +kernel
theorem dL_agrees_271 : decode cL_agrees 271 = .ok (.iload_n 3, 1) := by decide +kernel
theorem dL_agrees_272 : decode cL_agrees 272 = .ok (.aload 4, 2) := by decide +kernel
theorem dL_agrees_274 : decode cL_agrees 274 = .ok (.arraylength, 1) := by decide +kernel
theorem dL_agrees_275 : decode cL_agrees 275 = .ok (.bipush 9, 2) := by decide +kernel
theorem dL_agrees_277 : decode cL_agrees 277 = .ok (.invokestatic 197, 3) := by decide +kernel
theorem dL_agrees_280 : decode cL_agrees 280 = .ok (.ldc 62, 2) := by decide +kernel
theorem dL_agrees_282 : decode cL_agrees 282 = .ok (.if_icmp .ne 7, 3) := by decide +kernel
theorem dL_agrees_285 : decode cL_agrees 285 = .ok (.iconst 1, 1) := by decide +kernel
theorem dL_agrees_286 : decode cL_agrees 286 = .ok (.goto 4, 3) := by decide +kernel
theorem dL_agrees_289 : decode cL_agrees 289 = .ok (.iconst 0, 1) := by decide +kernel
theorem dL_agrees_290 : decode cL_agrees 290 = .ok (.istore_n 2, 1) := by decide +kernel
theorem dL_agrees_291 : decode cL_agrees 291 = .ok (.iinc 3 1, 3) := by decide +kernel
theorem dL_agrees_294 : decode cL_agrees 294 = .ok (.goto (-162), 3) := by decide +kernel
theorem dL_agrees_297 : decode cL_agrees 297 = .ok (.iload_n 2, 1) := by decide +kernel
theorem dL_agrees_298 : decode cL_agrees 298 = .ok (.ifCond .eq 37, 3) := by decide +kernel
theorem dL_agrees_301 : decode cL_agrees 301 = .ok (.aload_n 0, 1) := by decide +kernel
theorem dL_agrees_302 : decode cL_agrees 302 = .ok (.aload_n 1, 1) := by decide +kernel
theorem dL_agrees_303 : decode cL_agrees 303 = .ok (.getfield 112, 3) := by decide +kernel
theorem dL_agrees_306 : decode cL_agrees 306 = .ok (.arraylength, 1) := by decide +kernel
theorem dL_agrees_307 : decode cL_agrees 307 = .ok (.iconst 0, 1) := by decide +kernel
theorem dL_agrees_308 : decode cL_agrees 308 = .ok (.invokestatic 186, 3) := by decide +kernel
theorem dL_agrees_311 : decode cL_agrees 311 = .ok (.ldc 52, 2) := by decide +kernel
theorem dL_agrees_313 : decode cL_agrees 313 = .ok (.if_icmp .ne 22, 3) := by decide +kernel
theorem dL_agrees_316 : decode cL_agrees 316 = .ok (.aload_n 0, 1) := by decide +kernel
theorem dL_agrees_317 : decode cL_agrees 317 = .ok (.aload_n 1, 1) := by decide +kernel
theorem dL_agrees_318 : decode cL_agrees 318 = .ok (.getfield 132, 3) := by decide +kernel
theorem dL_agrees_321 : decode cL_agrees 321 = .ok (.arraylength, 1) := by decide +kernel
theorem dL_agrees_322 : decode cL_agrees 322 = .ok (.iconst 0, 1) := by decide +kernel
theorem dL_agrees_323 : decode cL_agrees 323 = .ok (.invokestatic 192, 3) := by decide +kernel
theorem dL_agrees_326 : decode cL_agrees 326 = .ok (.ldc 52, 2) := by decide +kernel
theorem dL_agrees_328 : decode cL_agrees 328 = .ok (.if_icmp .ne 7, 3) := by decide +kernel
theorem dL_agrees_331 : decode cL_agrees 331 = .ok (.iconst 1, 1) := by decide +kernel
theorem dL_agrees_332 : decode cL_agrees 332 = .ok (.goto 4, 3) := by decide +kernel
theorem dL_agrees_335 : decode cL_agrees 335 = .ok (.iconst 0, 1) := by decide +kernel
theorem dL_agrees_336 : decode cL_agrees 336 = .ok (.ireturn, 1) := by decide +kernel
