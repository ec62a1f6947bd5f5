/-! the wrappers, step by step -/
theorem dL_load_0 : decode cL_load 0 = .ok (.aload_n 2, 1) := by decide +kernel
theorem dL_load_1 : decode cL_load 1 = .ok (.iconst 0, 1) := by decide +kernel
theorem dL_load_2 : decode cL_load 2 = .ok (.aload_n 0, 1) := by decide +kernel
theorem dL_load_3 : decode cL_load 3 = .ok (.iload_n 1, 1) := by decide +kernel
theorem dL_load_4 : decode cL_load 4 = .ok (.invokevirtual 7, 3) := by decide +kernel
theorem dL_load_7 : decode cL_load 7 = .ok (.i2l, 1) := by decide +kernel
theorem dL_load_8 : decode cL_load 8 = .ok (.lastore, 1) := by decide +kernel
theorem dL_load_9 : decode cL_load 9 = .ok (.goto 6, 3) := by decide +kernel
theorem dL_load_12 : decode cL_load 12 = .ok (.astore_n 3, 1) := by decide +kernel
theorem dL_load_13 : decode cL_load 13 = .ok (.iconst 1, 1) := by decide +kernel
theorem dL_load_14 : decode cL_load 14 = .ok (.ireturn, 1) := by decide +kernel
theorem dL_load_15 : decode cL_load 15 = .ok (.iconst 0, 1) := by decide +kernel
theorem dL_load_16 : decode cL_load 16 = .ok (.ireturn, 1) := by decide +kernel
theorem dL_state_0 : decode cL_state 0 = .ok (.aload_n 2, 1) := by decide +kernel
theorem dL_state_1 : decode cL_state 1 = .ok (.iconst 0, 1) := by decide +kernel
theorem dL_state_2 : decode cL_state 2 = .ok (.aload_n 0, 1) := by decide +kernel
theorem dL_state_3 : decode cL_state 3 = .ok (.iload_n 1, 1) := by decide +kernel
theorem dL_state_4 : decode cL_state 4 = .ok (.invokevirtual 15, 3) := by decide +kernel
theorem dL_state_7 : decode cL_state 7 = .ok (.i2l, 1) := by decide +kernel
theorem dL_state_8 : decode cL_state 8 = .ok (.lastore, 1) := by decide +kernel
theorem dL_state_9 : decode cL_state 9 = .ok (.goto 6, 3) := by decide +kernel
theorem dL_state_12 : decode cL_state 12 = .ok (.astore_n 3, 1) := by decide +kernel
theorem dL_state_13 : decode cL_state 13 = .ok (.iconst 1, 1) := by decide +kernel
theorem dL_state_14 : decode cL_state 14 = .ok (.ireturn, 1) := by decide +kernel
theorem dL_state_15 : decode cL_state 15 = .ok (.iconst 0, 1) := by decide +kernel
theorem dL_state_16 : decode cL_state 16 = .ok (.ireturn, 1) := by decide +kernel
theorem dL_stock_0 : decode cL_stock 0 = .ok (.aload_n 3, 1) := by decide +kernel
theorem dL_stock_1 : decode cL_stock 1 = .ok (.iconst 0, 1) := by decide +kernel
theorem dL_stock_2 : decode cL_stock 2 = .ok (.aload_n 0, 1) := by decide +kernel
theorem dL_stock_3 : decode cL_stock 3 = .ok (.iload_n 1, 1) := by decide +kernel
theorem dL_stock_4 : decode cL_stock 4 = .ok (.iload_n 2, 1) := by decide +kernel
theorem dL_stock_5 : decode cL_stock 5 = .ok (.invokevirtual 18, 3) := by decide +kernel
theorem dL_stock_8 : decode cL_stock 8 = .ok (.i2l, 1) := by decide +kernel
theorem dL_stock_9 : decode cL_stock 9 = .ok (.lastore, 1) := by decide +kernel
theorem dL_stock_10 : decode cL_stock 10 = .ok (.goto 11, 3) := by decide +kernel
theorem dL_stock_13 : decode cL_stock 13 = .ok (.astore 4, 2) := by decide +kernel
theorem dL_stock_15 : decode cL_stock 15 = .ok (.iconst 1, 1) := by decide +kernel
theorem dL_stock_16 : decode cL_stock 16 = .ok (.ireturn, 1) := by decide +kernel
theorem dL_stock_17 : decode cL_stock 17 = .ok (.astore 4, 2) := by decide +kernel
theorem dL_stock_19 : decode cL_stock 19 = .ok (.iconst 2, 1) := by decide +kernel
theorem dL_stock_20 : decode cL_stock 20 = .ok (.ireturn, 1) := by decide +kernel
theorem dL_stock_21 : decode cL_stock 21 = .ok (.iconst 0, 1) := by decide +kernel
theorem dL_stock_22 : decode cL_stock 22 = .ok (.ireturn, 1) := by decide +kernel
theorem dL_journey_0 : decode cL_journey 0 = .ok (.aload_n 3, 1) := by decide +kernel
theorem dL_journey_1 : decode cL_journey 1 = .ok (.iconst 0, 1) := by decide +kernel
theorem dL_journey_2 : decode cL_journey 2 = .ok (.aload_n 0, 1) := by decide +kernel
theorem dL_journey_3 : decode cL_journey 3 = .ok (.iload_n 1, 1) := by decide +kernel
theorem dL_journey_4 : decode cL_journey 4 = .ok (.iload_n 2, 1) := by decide +kernel
theorem dL_journey_5 : decode cL_journey 5 = .ok (.invokevirtual 24, 3) := by decide +kernel
theorem dL_journey_8 : decode cL_journey 8 = .ok (.i2l, 1) := by decide +kernel
theorem dL_journey_9 : decode cL_journey 9 = .ok (.lastore, 1) := by decide +kernel
theorem dL_journey_10 : decode cL_journey 10 = .ok (.goto 11, 3) := by decide +kernel
theorem dL_journey_13 : decode cL_journey 13 = .ok (.astore 4, 2) := by decide +kernel
theorem dL_journey_15 : decode cL_journey 15 = .ok (.iconst 1, 1) := by decide +kernel
theorem dL_journey_16 : decode cL_journey 16 = .ok (.ireturn, 1) := by decide +kernel
theorem dL_journey_17 : decode cL_journey 17 = .ok (.astore 4, 2) := by decide +kernel
theorem dL_journey_19 : decode cL_journey 19 = .ok (.iconst 2, 1) := by decide +kernel
theorem dL_journey_20 : decode cL_journey 20 = .ok (.ireturn, 1) := by decide +kernel
theorem dL_journey_21 : decode cL_journey 21 = .ok (.iconst 0, 1) := by decide +kernel
theorem dL_journey_22 : decode cL_journey 22 = .ok (.ireturn, 1) := by decide +kernel
theorem dL_step_0 : decode cL_step 0 = .ok (.aload 4, 2) := by decide +kernel
theorem dL_step_2 : decode cL_step 2 = .ok (.iconst 0, 1) := by decide +kernel
theorem dL_step_3 : decode cL_step 3 = .ok (.aload_n 0, 1) := by decide +kernel
theorem dL_step_4 : decode cL_step 4 = .ok (.iload_n 1, 1) := by decide +kernel
theorem dL_step_5 : decode cL_step 5 = .ok (.iload_n 2, 1) := by decide +kernel
theorem dL_step_6 : decode cL_step 6 = .ok (.iload_n 3, 1) := by decide +kernel
theorem dL_step_7 : decode cL_step 7 = .ok (.invokevirtual 27, 3) := by decide +kernel
theorem dL_step_10 : decode cL_step 10 = .ok (.i2l, 1) := by decide +kernel
theorem dL_step_11 : decode cL_step 11 = .ok (.lastore, 1) := by decide +kernel
theorem dL_step_12 : decode cL_step 12 = .ok (.goto 15, 3) := by decide +kernel
theorem dL_step_15 : decode cL_step 15 = .ok (.astore 5, 2) := by decide +kernel
theorem dL_step_17 : decode cL_step 17 = .ok (.iconst 1, 1) := by decide +kernel
theorem dL_step_18 : decode cL_step 18 = .ok (.ireturn, 1) := by decide +kernel
theorem dL_step_19 : decode cL_step 19 = .ok (.astore 5, 2) := by decide +kernel
theorem dL_step_21 : decode cL_step 21 = .ok (.iconst 2, 1) := by decide +kernel
theorem dL_step_22 : decode cL_step 22 = .ok (.ireturn, 1) := by decide +kernel
theorem dL_step_23 : decode cL_step 23 = .ok (.astore 5, 2) := by decide +kernel
theorem dL_step_25 : decode cL_step 25 = .ok (.iconst 3, 1) := by decide +kernel
theorem dL_step_26 : decode cL_step 26 = .ok (.ireturn, 1) := by decide +kernel
theorem dL_step_27 : decode cL_step 27 = .ok (.iconst 0, 1) := by decide +kernel
theorem dL_step_28 : decode cL_step 28 = .ok (.ireturn, 1) := by decide +kernel
theorem dL_owed_0 : decode cL_owed 0 = .ok (.aload_n 3, 1) := by decide +kernel
theorem dL_owed_1 : decode cL_owed 1 = .ok (.iconst 0, 1) := by decide +kernel
theorem dL_owed_2 : decode cL_owed 2 = .ok (.aload_n 0, 1) := by decide +kernel
theorem dL_owed_3 : decode cL_owed 3 = .ok (.iload_n 1, 1) := by decide +kernel
theorem dL_owed_4 : decode cL_owed 4 = .ok (.iload_n 2, 1) := by decide +kernel
theorem dL_owed_5 : decode cL_owed 5 = .ok (.invokevirtual 33, 3) := by decide +kernel
theorem dL_owed_8 : decode cL_owed 8 = .ok (.i2l, 1) := by decide +kernel
theorem dL_owed_9 : decode cL_owed 9 = .ok (.lastore, 1) := by decide +kernel
theorem dL_owed_10 : decode cL_owed 10 = .ok (.goto 11, 3) := by decide +kernel
theorem dL_owed_13 : decode cL_owed 13 = .ok (.astore 4, 2) := by decide +kernel
theorem dL_owed_15 : decode cL_owed 15 = .ok (.iconst 1, 1) := by decide +kernel
theorem dL_owed_16 : decode cL_owed 16 = .ok (.ireturn, 1) := by decide +kernel
theorem dL_owed_17 : decode cL_owed 17 = .ok (.astore 4, 2) := by decide +kernel
theorem dL_owed_19 : decode cL_owed 19 = .ok (.iconst 2, 1) := by decide +kernel
theorem dL_owed_20 : decode cL_owed 20 = .ok (.ireturn, 1) := by decide +kernel
theorem dL_owed_21 : decode cL_owed 21 = .ok (.iconst 0, 1) := by decide +kernel
theorem dL_owed_22 : decode cL_owed 22 = .ok (.ireturn, 1) := by decide +kernel
theorem dL_restsIn_0 : decode cL_restsIn 0 = .ok (.aload_n 2, 1) := by decide +kernel
theorem dL_restsIn_1 : decode cL_restsIn 1 = .ok (.iconst 0, 1) := by decide +kernel
theorem dL_restsIn_2 : decode cL_restsIn 2 = .ok (.aload_n 0, 1) := by decide +kernel
theorem dL_restsIn_3 : decode cL_restsIn 3 = .ok (.iload_n 1, 1) := by decide +kernel
theorem dL_restsIn_4 : decode cL_restsIn 4 = .ok (.invokevirtual 36, 3) := by decide +kernel
theorem dL_restsIn_7 : decode cL_restsIn 7 = .ok (.i2l, 1) := by decide +kernel
theorem dL_restsIn_8 : decode cL_restsIn 8 = .ok (.lastore, 1) := by decide +kernel
theorem dL_restsIn_9 : decode cL_restsIn 9 = .ok (.goto 6, 3) := by decide +kernel
theorem dL_restsIn_12 : decode cL_restsIn 12 = .ok (.astore_n 3, 1) := by decide +kernel
theorem dL_restsIn_13 : decode cL_restsIn 13 = .ok (.iconst 1, 1) := by decide +kernel
theorem dL_restsIn_14 : decode cL_restsIn 14 = .ok (.ireturn, 1) := by decide +kernel
theorem dL_restsIn_15 : decode cL_restsIn 15 = .ok (.iconst 0, 1) := by decide +kernel
theorem dL_restsIn_16 : decode cL_restsIn 16 = .ok (.ireturn, 1) := by decide +kernel
theorem dL_stateAfter_0 : decode cL_stateAfter 0 = .ok (.aload_n 3, 1) := by decide +kernel
theorem dL_stateAfter_1 : decode cL_stateAfter 1 = .ok (.iconst 0, 1) := by decide +kernel
theorem dL_stateAfter_2 : decode cL_stateAfter 2 = .ok (.aload_n 0, 1) := by decide +kernel
theorem dL_stateAfter_3 : decode cL_stateAfter 3 = .ok (.iload_n 1, 1) := by decide +kernel
theorem dL_stateAfter_4 : decode cL_stateAfter 4 = .ok (.iload_n 2, 1) := by decide +kernel
theorem dL_stateAfter_5 : decode cL_stateAfter 5 = .ok (.invokevirtual 39, 3) := by decide +kernel
theorem dL_stateAfter_8 : decode cL_stateAfter 8 = .ok (.i2l, 1) := by decide +kernel
theorem dL_stateAfter_9 : decode cL_stateAfter 9 = .ok (.lastore, 1) := by decide +kernel
theorem dL_stateAfter_10 : decode cL_stateAfter 10 = .ok (.goto 11, 3) := by decide +kernel
theorem dL_stateAfter_13 : decode cL_stateAfter 13 = .ok (.astore 4, 2) := by decide +kernel
theorem dL_stateAfter_15 : decode cL_stateAfter 15 = .ok (.iconst 1, 1) := by decide +kernel
theorem dL_stateAfter_16 : decode cL_stateAfter 16 = .ok (.ireturn, 1) := by decide +kernel
theorem dL_stateAfter_17 : decode cL_stateAfter 17 = .ok (.astore 4, 2) := by decide +kernel
theorem dL_stateAfter_19 : decode cL_stateAfter 19 = .ok (.iconst 2, 1) := by decide +kernel
theorem dL_stateAfter_20 : decode cL_stateAfter 20 = .ok (.ireturn, 1) := by decide +kernel
theorem dL_stateAfter_21 : decode cL_stateAfter 21 = .ok (.iconst 0, 1) := by decide +kernel
theorem dL_stateAfter_22 : decode cL_stateAfter 22 = .ok (.ireturn, 1) := by decide +kernel
theorem dL_help_0 : decode cL_help 0 = .ok (.aload_n 3, 1) := by decide +kernel
theorem dL_help_1 : decode cL_help 1 = .ok (.iconst 0, 1) := by decide +kernel
theorem dL_help_2 : decode cL_help 2 = .ok (.aload_n 0, 1) := by decide +kernel
theorem dL_help_3 : decode cL_help 3 = .ok (.iload_n 1, 1) := by decide +kernel
theorem dL_help_4 : decode cL_help 4 = .ok (.iload_n 2, 1) := by decide +kernel
theorem dL_help_5 : decode cL_help 5 = .ok (.invokevirtual 42, 3) := by decide +kernel
theorem dL_help_8 : decode cL_help 8 = .ok (.i2l, 1) := by decide +kernel
theorem dL_help_9 : decode cL_help 9 = .ok (.lastore, 1) := by decide +kernel
theorem dL_help_10 : decode cL_help 10 = .ok (.goto 7, 3) := by decide +kernel
theorem dL_help_13 : decode cL_help 13 = .ok (.astore 4, 2) := by decide +kernel
theorem dL_help_15 : decode cL_help 15 = .ok (.iconst 1, 1) := by decide +kernel
theorem dL_help_16 : decode cL_help 16 = .ok (.ireturn, 1) := by decide +kernel
theorem dL_help_17 : decode cL_help 17 = .ok (.iconst 0, 1) := by decide +kernel
theorem dL_help_18 : decode cL_help 18 = .ok (.ireturn, 1) := by decide +kernel
theorem dL_pass_0 : decode cL_pass 0 = .ok (.aload_n 2, 1) := by decide +kernel
theorem dL_pass_1 : decode cL_pass 1 = .ok (.iconst 0, 1) := by decide +kernel
theorem dL_pass_2 : decode cL_pass 2 = .ok (.aload_n 0, 1) := by decide +kernel
theorem dL_pass_3 : decode cL_pass 3 = .ok (.iload_n 1, 1) := by decide +kernel
theorem dL_pass_4 : decode cL_pass 4 = .ok (.invokevirtual 45, 3) := by decide +kernel
theorem dL_pass_7 : decode cL_pass 7 = .ok (.i2l, 1) := by decide +kernel
theorem dL_pass_8 : decode cL_pass 8 = .ok (.lastore, 1) := by decide +kernel
theorem dL_pass_9 : decode cL_pass 9 = .ok (.goto 6, 3) := by decide +kernel
theorem dL_pass_12 : decode cL_pass 12 = .ok (.astore_n 3, 1) := by decide +kernel
theorem dL_pass_13 : decode cL_pass 13 = .ok (.iconst 1, 1) := by decide +kernel
theorem dL_pass_14 : decode cL_pass 14 = .ok (.ireturn, 1) := by decide +kernel
theorem dL_pass_15 : decode cL_pass 15 = .ok (.iconst 0, 1) := by decide +kernel
theorem dL_pass_16 : decode cL_pass 16 = .ok (.ireturn, 1) := by decide +kernel
theorem dL_settle_0 : decode cL_settle 0 = .ok (.aload_n 2, 1) := by decide +kernel
theorem dL_settle_1 : decode cL_settle 1 = .ok (.iconst 0, 1) := by decide +kernel
theorem dL_settle_2 : decode cL_settle 2 = .ok (.aload_n 0, 1) := by decide +kernel
theorem dL_settle_3 : decode cL_settle 3 = .ok (.iload_n 1, 1) := by decide +kernel
theorem dL_settle_4 : decode cL_settle 4 = .ok (.invokevirtual 48, 3) := by decide +kernel
theorem dL_settle_7 : decode cL_settle 7 = .ok (.i2l, 1) := by decide +kernel
theorem dL_settle_8 : decode cL_settle 8 = .ok (.lastore, 1) := by decide +kernel
theorem dL_settle_9 : decode cL_settle 9 = .ok (.goto 9, 3) := by decide +kernel
theorem dL_settle_12 : decode cL_settle 12 = .ok (.astore_n 3, 1) := by decide +kernel
theorem dL_settle_13 : decode cL_settle 13 = .ok (.iconst 1, 1) := by decide +kernel
theorem dL_settle_14 : decode cL_settle 14 = .ok (.ireturn, 1) := by decide +kernel
theorem dL_settle_15 : decode cL_settle 15 = .ok (.astore_n 3, 1) := by decide +kernel
theorem dL_settle_16 : decode cL_settle 16 = .ok (.iconst 2, 1) := by decide +kernel
theorem dL_settle_17 : decode cL_settle 17 = .ok (.ireturn, 1) := by decide +kernel
theorem dL_settle_18 : decode cL_settle 18 = .ok (.iconst 0, 1) := by decide +kernel
theorem dL_settle_19 : decode cL_settle 19 = .ok (.ireturn, 1) := by decide +kernel
theorem dL_writeOff_0 : decode cL_writeOff 0 = .ok (.aload_n 2, 1) := by decide +kernel
theorem dL_writeOff_1 : decode cL_writeOff 1 = .ok (.iconst 0, 1) := by decide +kernel
theorem dL_writeOff_2 : decode cL_writeOff 2 = .ok (.aload_n 0, 1) := by decide +kernel
theorem dL_writeOff_3 : decode cL_writeOff 3 = .ok (.iload_n 1, 1) := by decide +kernel
theorem dL_writeOff_4 : decode cL_writeOff 4 = .ok (.invokevirtual 53, 3) := by decide +kernel
theorem dL_writeOff_7 : decode cL_writeOff 7 = .ok (.i2l, 1) := by decide +kernel
theorem dL_writeOff_8 : decode cL_writeOff 8 = .ok (.lastore, 1) := by decide +kernel
theorem dL_writeOff_9 : decode cL_writeOff 9 = .ok (.goto 9, 3) := by decide +kernel
theorem dL_writeOff_12 : decode cL_writeOff 12 = .ok (.astore_n 3, 1) := by decide +kernel
theorem dL_writeOff_13 : decode cL_writeOff 13 = .ok (.iconst 1, 1) := by decide +kernel
theorem dL_writeOff_14 : decode cL_writeOff 14 = .ok (.ireturn, 1) := by decide +kernel
theorem dL_writeOff_15 : decode cL_writeOff 15 = .ok (.astore_n 3, 1) := by decide +kernel
theorem dL_writeOff_16 : decode cL_writeOff 16 = .ok (.iconst 2, 1) := by decide +kernel
theorem dL_writeOff_17 : decode cL_writeOff 17 = .ok (.ireturn, 1) := by decide +kernel
theorem dL_writeOff_18 : decode cL_writeOff 18 = .ok (.iconst 0, 1) := by decide +kernel
theorem dL_writeOff_19 : decode cL_writeOff 19 = .ok (.ireturn, 1) := by decide +kernel
theorem dL_goForward_0 : decode cL_goForward 0 = .ok (.aload_n 2, 1) := by decide +kernel
theorem dL_goForward_1 : decode cL_goForward 1 = .ok (.iconst 0, 1) := by decide +kernel
theorem dL_goForward_2 : decode cL_goForward 2 = .ok (.aload_n 0, 1) := by decide +kernel
theorem dL_goForward_3 : decode cL_goForward 3 = .ok (.iload_n 1, 1) := by decide +kernel
theorem dL_goForward_4 : decode cL_goForward 4 = .ok (.invokevirtual 56, 3) := by decide +kernel
theorem dL_goForward_7 : decode cL_goForward 7 = .ok (.i2l, 1) := by decide +kernel
theorem dL_goForward_8 : decode cL_goForward 8 = .ok (.lastore, 1) := by decide +kernel
theorem dL_goForward_9 : decode cL_goForward 9 = .ok (.goto 9, 3) := by decide +kernel
theorem dL_goForward_12 : decode cL_goForward 12 = .ok (.astore_n 3, 1) := by decide +kernel
theorem dL_goForward_13 : decode cL_goForward 13 = .ok (.iconst 1, 1) := by decide +kernel
theorem dL_goForward_14 : decode cL_goForward 14 = .ok (.ireturn, 1) := by decide +kernel
theorem dL_goForward_15 : decode cL_goForward 15 = .ok (.astore_n 3, 1) := by decide +kernel
theorem dL_goForward_16 : decode cL_goForward 16 = .ok (.iconst 2, 1) := by decide +kernel
theorem dL_goForward_17 : decode cL_goForward 17 = .ok (.ireturn, 1) := by decide +kernel
theorem dL_goForward_18 : decode cL_goForward 18 = .ok (.iconst 0, 1) := by decide +kernel
theorem dL_goForward_19 : decode cL_goForward 19 = .ok (.ireturn, 1) := by decide +kernel
theorem dL_restock_0 : decode cL_restock 0 = .ok (.aload_n 3, 1) := by decide +kernel
theorem dL_restock_1 : decode cL_restock 1 = .ok (.iconst 0, 1) := by decide +kernel
theorem dL_restock_2 : decode cL_restock 2 = .ok (.aload_n 0, 1) := by decide +kernel
theorem dL_restock_3 : decode cL_restock 3 = .ok (.iload_n 1, 1) := by decide +kernel
theorem dL_restock_4 : decode cL_restock 4 = .ok (.iload_n 2, 1) := by decide +kernel
theorem dL_restock_5 : decode cL_restock 5 = .ok (.invokevirtual 59, 3) := by decide +kernel
theorem dL_restock_8 : decode cL_restock 8 = .ok (.i2l, 1) := by decide +kernel
theorem dL_restock_9 : decode cL_restock 9 = .ok (.lastore, 1) := by decide +kernel
theorem dL_restock_10 : decode cL_restock 10 = .ok (.goto 11, 3) := by decide +kernel
theorem dL_restock_13 : decode cL_restock 13 = .ok (.astore 4, 2) := by decide +kernel
theorem dL_restock_15 : decode cL_restock 15 = .ok (.iconst 1, 1) := by decide +kernel
theorem dL_restock_16 : decode cL_restock 16 = .ok (.ireturn, 1) := by decide +kernel
theorem dL_restock_17 : decode cL_restock 17 = .ok (.astore 4, 2) := by decide +kernel
theorem dL_restock_19 : decode cL_restock 19 = .ok (.iconst 2, 1) := by decide +kernel
theorem dL_restock_20 : decode cL_restock 20 = .ok (.ireturn, 1) := by decide +kernel
theorem dL_restock_21 : decode cL_restock 21 = .ok (.iconst 0, 1) := by decide +kernel
theorem dL_restock_22 : decode cL_restock 22 = .ok (.ireturn, 1) := by decide +kernel
