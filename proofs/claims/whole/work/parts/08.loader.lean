/-! 08.loader: by program (wip/whole/src/gen.py) out of the bytecode and the specs. -/
theorem d_L_readLog_0 : decode b_L_readLog 0 = .ok (.aload_n 0, 1) := by decide +kernel
theorem d_L_readLog_1 : decode b_L_readLog 1 = .ok (.getfield 9, 3) := by decide +kernel
theorem d_L_readLog_4 : decode b_L_readLog 4 = .ok (.iload_n 1, 1) := by decide +kernel
theorem d_L_readLog_5 : decode b_L_readLog 5 = .ok (.bipush 16, 2) := by decide +kernel
theorem d_L_readLog_7 : decode b_L_readLog 7 = .ok (.imul, 1) := by decide +kernel
theorem d_L_readLog_8 : decode b_L_readLog 8 = .ok (.iload_n 2, 1) := by decide +kernel
theorem d_L_readLog_9 : decode b_L_readLog 9 = .ok (.iadd, 1) := by decide +kernel
theorem d_L_readLog_10 : decode b_L_readLog 10 = .ok (.invokevirtual 68, 3) := by decide +kernel
theorem d_L_readLog_13 : decode b_L_readLog 13 = .ok (.ireturn, 1) := by decide +kernel
theorem d_L_writeLog_0 : decode b_L_writeLog 0 = .ok (.aload_n 0, 1) := by decide +kernel
theorem d_L_writeLog_1 : decode b_L_writeLog 1 = .ok (.getfield 9, 3) := by decide +kernel
theorem d_L_writeLog_4 : decode b_L_writeLog 4 = .ok (.iload_n 1, 1) := by decide +kernel
theorem d_L_writeLog_5 : decode b_L_writeLog 5 = .ok (.bipush 16, 2) := by decide +kernel
theorem d_L_writeLog_7 : decode b_L_writeLog 7 = .ok (.imul, 1) := by decide +kernel
theorem d_L_writeLog_8 : decode b_L_writeLog 8 = .ok (.iload_n 2, 1) := by decide +kernel
theorem d_L_writeLog_9 : decode b_L_writeLog 9 = .ok (.iadd, 1) := by decide +kernel
theorem d_L_writeLog_10 : decode b_L_writeLog 10 = .ok (.iload_n 3, 1) := by decide +kernel
theorem d_L_writeLog_11 : decode b_L_writeLog 11 = .ok (.invokevirtual 71, 3) := by decide +kernel
theorem d_L_writeLog_14 : decode b_L_writeLog 14 = .ok (.ireturn, 1) := by decide +kernel
theorem d_L_isSo_0 : decode b_L_isSo 0 = .ok (.aload_n 0, 1) := by decide +kernel
theorem d_L_isSo_1 : decode b_L_isSo 1 = .ok (.bipush 13, 2) := by decide +kernel
theorem d_L_isSo_3 : decode b_L_isSo 3 = .ok (.iload_n 1, 1) := by decide +kernel
theorem d_L_isSo_4 : decode b_L_isSo 4 = .ok (.invokevirtual 64, 3) := by decide +kernel
theorem d_L_isSo_7 : decode b_L_isSo 7 = .ok (.ifCond .ne 7, 3) := by decide +kernel
theorem d_L_isSo_10 : decode b_L_isSo 10 = .ok (.iconst 1, 1) := by decide +kernel
theorem d_L_isSo_11 : decode b_L_isSo 11 = .ok (.goto 4, 3) := by decide +kernel
theorem d_L_isSo_14 : decode b_L_isSo 14 = .ok (.iconst 0, 1) := by decide +kernel
theorem d_L_isSo_15 : decode b_L_isSo 15 = .ok (.ireturn, 1) := by decide +kernel
theorem d_L_hasRequest_0 : decode b_L_hasRequest 0 = .ok (.aload_n 0, 1) := by decide +kernel
theorem d_L_hasRequest_1 : decode b_L_hasRequest 1 = .ok (.iload_n 1, 1) := by decide +kernel
theorem d_L_hasRequest_2 : decode b_L_hasRequest 2 = .ok (.iconst 0, 1) := by decide +kernel
theorem d_L_hasRequest_3 : decode b_L_hasRequest 3 = .ok (.invokevirtual 64, 3) := by decide +kernel
theorem d_L_hasRequest_6 : decode b_L_hasRequest 6 = .ok (.bipush 15, 2) := by decide +kernel
theorem d_L_hasRequest_8 : decode b_L_hasRequest 8 = .ok (.if_icmp .ne 7, 3) := by decide +kernel
theorem d_L_hasRequest_11 : decode b_L_hasRequest 11 = .ok (.iconst 1, 1) := by decide +kernel
theorem d_L_hasRequest_12 : decode b_L_hasRequest 12 = .ok (.goto 4, 3) := by decide +kernel
theorem d_L_hasRequest_15 : decode b_L_hasRequest 15 = .ok (.iconst 0, 1) := by decide +kernel
theorem d_L_hasRequest_16 : decode b_L_hasRequest 16 = .ok (.ireturn, 1) := by decide +kernel
theorem d_L_bitOf_0 : decode b_L_bitOf 0 = .ok (.iconst 1, 1) := by decide +kernel
theorem d_L_bitOf_1 : decode b_L_bitOf 1 = .ok (.iload_n 0, 1) := by decide +kernel
theorem d_L_bitOf_2 : decode b_L_bitOf 2 = .ok (.bipush 8, 2) := by decide +kernel
theorem d_L_bitOf_4 : decode b_L_bitOf 4 = .ok (.irem, 1) := by decide +kernel
theorem d_L_bitOf_5 : decode b_L_bitOf 5 = .ok (.ishl, 1) := by decide +kernel
theorem d_L_bitOf_6 : decode b_L_bitOf 6 = .ok (.ireturn, 1) := by decide +kernel
theorem d_L_sourceOf_0 : decode b_L_sourceOf 0 = .ok (.iload_n 0, 1) := by decide +kernel
theorem d_L_sourceOf_1 : decode b_L_sourceOf 1 = .ok (.iconst 3, 1) := by decide +kernel
theorem d_L_sourceOf_2 : decode b_L_sourceOf 2 = .ok (.irem, 1) := by decide +kernel
theorem d_L_sourceOf_3 : decode b_L_sourceOf 3 = .ok (.lookupswitch 38 #[(0, 25), (1, 31)], 25) := by decide +kernel
theorem d_L_sourceOf_28 : decode b_L_sourceOf 28 = .ok (.iconst 0, 1) := by decide +kernel
theorem d_L_sourceOf_29 : decode b_L_sourceOf 29 = .ok (.iload_n 0, 1) := by decide +kernel
theorem d_L_sourceOf_30 : decode b_L_sourceOf 30 = .ok (.iconst 3, 1) := by decide +kernel
theorem d_L_sourceOf_31 : decode b_L_sourceOf 31 = .ok (.idiv, 1) := by decide +kernel
theorem d_L_sourceOf_32 : decode b_L_sourceOf 32 = .ok (.iadd, 1) := by decide +kernel
theorem d_L_sourceOf_33 : decode b_L_sourceOf 33 = .ok (.ireturn, 1) := by decide +kernel
theorem d_L_sourceOf_34 : decode b_L_sourceOf 34 = .ok (.bipush 6, 2) := by decide +kernel
theorem d_L_sourceOf_36 : decode b_L_sourceOf 36 = .ok (.iload_n 0, 1) := by decide +kernel
theorem d_L_sourceOf_37 : decode b_L_sourceOf 37 = .ok (.iconst 3, 1) := by decide +kernel
theorem d_L_sourceOf_38 : decode b_L_sourceOf 38 = .ok (.idiv, 1) := by decide +kernel
theorem d_L_sourceOf_39 : decode b_L_sourceOf 39 = .ok (.iadd, 1) := by decide +kernel
theorem d_L_sourceOf_40 : decode b_L_sourceOf 40 = .ok (.ireturn, 1) := by decide +kernel
theorem d_L_sourceOf_41 : decode b_L_sourceOf 41 = .ok (.bipush 12, 2) := by decide +kernel
theorem d_L_sourceOf_43 : decode b_L_sourceOf 43 = .ok (.ireturn, 1) := by decide +kernel
theorem d_L_targetOf_0 : decode b_L_targetOf 0 = .ok (.iload_n 0, 1) := by decide +kernel
theorem d_L_targetOf_1 : decode b_L_targetOf 1 = .ok (.iconst 3, 1) := by decide +kernel
theorem d_L_targetOf_2 : decode b_L_targetOf 2 = .ok (.irem, 1) := by decide +kernel
theorem d_L_targetOf_3 : decode b_L_targetOf 3 = .ok (.lookupswitch 34 #[(0, 25), (1, 28)], 25) := by decide +kernel
theorem d_L_targetOf_28 : decode b_L_targetOf 28 = .ok (.bipush 12, 2) := by decide +kernel
theorem d_L_targetOf_30 : decode b_L_targetOf 30 = .ok (.ireturn, 1) := by decide +kernel
theorem d_L_targetOf_31 : decode b_L_targetOf 31 = .ok (.iconst 0, 1) := by decide +kernel
theorem d_L_targetOf_32 : decode b_L_targetOf 32 = .ok (.iload_n 0, 1) := by decide +kernel
theorem d_L_targetOf_33 : decode b_L_targetOf 33 = .ok (.iconst 3, 1) := by decide +kernel
theorem d_L_targetOf_34 : decode b_L_targetOf 34 = .ok (.idiv, 1) := by decide +kernel
theorem d_L_targetOf_35 : decode b_L_targetOf 35 = .ok (.iadd, 1) := by decide +kernel
theorem d_L_targetOf_36 : decode b_L_targetOf 36 = .ok (.ireturn, 1) := by decide +kernel
theorem d_L_targetOf_37 : decode b_L_targetOf 37 = .ok (.bipush 6, 2) := by decide +kernel
theorem d_L_targetOf_39 : decode b_L_targetOf 39 = .ok (.iload_n 0, 1) := by decide +kernel
theorem d_L_targetOf_40 : decode b_L_targetOf 40 = .ok (.iconst 3, 1) := by decide +kernel
theorem d_L_targetOf_41 : decode b_L_targetOf 41 = .ok (.idiv, 1) := by decide +kernel
theorem d_L_targetOf_42 : decode b_L_targetOf 42 = .ok (.iadd, 1) := by decide +kernel
theorem d_L_targetOf_43 : decode b_L_targetOf 43 = .ok (.ireturn, 1) := by decide +kernel
theorem d_L_isStepDone_0 : decode b_L_isStepDone 0 = .ok (.aload_n 0, 1) := by decide +kernel
theorem d_L_isStepDone_1 : decode b_L_isStepDone 1 = .ok (.iload_n 1, 1) := by decide +kernel
theorem d_L_isStepDone_2 : decode b_L_isStepDone 2 = .ok (.iconst 4, 1) := by decide +kernel
theorem d_L_isStepDone_3 : decode b_L_isStepDone 3 = .ok (.iload_n 2, 1) := by decide +kernel
theorem d_L_isStepDone_4 : decode b_L_isStepDone 4 = .ok (.bipush 8, 2) := by decide +kernel
theorem d_L_isStepDone_6 : decode b_L_isStepDone 6 = .ok (.idiv, 1) := by decide +kernel
theorem d_L_isStepDone_7 : decode b_L_isStepDone 7 = .ok (.iadd, 1) := by decide +kernel
theorem d_L_isStepDone_8 : decode b_L_isStepDone 8 = .ok (.invokevirtual 64, 3) := by decide +kernel
theorem d_L_isStepDone_11 : decode b_L_isStepDone 11 = .ok (.iload_n 2, 1) := by decide +kernel
theorem d_L_isStepDone_12 : decode b_L_isStepDone 12 = .ok (.invokestatic 61, 3) := by decide +kernel
theorem d_L_isStepDone_15 : decode b_L_isStepDone 15 = .ok (.iand, 1) := by decide +kernel
theorem d_L_isStepDone_16 : decode b_L_isStepDone 16 = .ok (.ifCond .ne 7, 3) := by decide +kernel
theorem d_L_isStepDone_19 : decode b_L_isStepDone 19 = .ok (.iconst 1, 1) := by decide +kernel
theorem d_L_isStepDone_20 : decode b_L_isStepDone 20 = .ok (.goto 4, 3) := by decide +kernel
theorem d_L_isStepDone_23 : decode b_L_isStepDone 23 = .ok (.iconst 0, 1) := by decide +kernel
theorem d_L_isStepDone_24 : decode b_L_isStepDone 24 = .ok (.ireturn, 1) := by decide +kernel
theorem d_L_stepsDone_0 : decode b_L_stepsDone 0 = .ok (.iconst 0, 1) := by decide +kernel
theorem d_L_stepsDone_1 : decode b_L_stepsDone 1 = .ok (.istore_n 2, 1) := by decide +kernel
theorem d_L_stepsDone_2 : decode b_L_stepsDone 2 = .ok (.iconst 0, 1) := by decide +kernel
theorem d_L_stepsDone_3 : decode b_L_stepsDone 3 = .ok (.istore_n 3, 1) := by decide +kernel
theorem d_L_stepsDone_4 : decode b_L_stepsDone 4 = .ok (.iload_n 3, 1) := by decide +kernel
theorem d_L_stepsDone_5 : decode b_L_stepsDone 5 = .ok (.bipush 18, 2) := by decide +kernel
theorem d_L_stepsDone_7 : decode b_L_stepsDone 7 = .ok (.if_icmp .ge 21, 3) := by decide +kernel
theorem d_L_stepsDone_10 : decode b_L_stepsDone 10 = .ok (.aload_n 0, 1) := by decide +kernel
theorem d_L_stepsDone_11 : decode b_L_stepsDone 11 = .ok (.iload_n 1, 1) := by decide +kernel
theorem d_L_stepsDone_12 : decode b_L_stepsDone 12 = .ok (.iload_n 3, 1) := by decide +kernel
theorem d_L_stepsDone_13 : decode b_L_stepsDone 13 = .ok (.invokevirtual 38, 3) := by decide +kernel
theorem d_L_stepsDone_16 : decode b_L_stepsDone 16 = .ok (.ifCond .eq 6, 3) := by decide +kernel
theorem d_L_stepsDone_19 : decode b_L_stepsDone 19 = .ok (.iinc 2 1, 3) := by decide +kernel
theorem d_L_stepsDone_22 : decode b_L_stepsDone 22 = .ok (.iinc 3 1, 3) := by decide +kernel
theorem d_L_stepsDone_25 : decode b_L_stepsDone 25 = .ok (.goto (-21), 3) := by decide +kernel
theorem d_L_stepsDone_28 : decode b_L_stepsDone 28 = .ok (.iload_n 2, 1) := by decide +kernel
theorem d_L_stepsDone_29 : decode b_L_stepsDone 29 = .ok (.ireturn, 1) := by decide +kernel
theorem d_L_change_0 : decode b_L_change 0 = .ok (.iconst 0, 1) := by decide +kernel
theorem d_L_change_1 : decode b_L_change 1 = .ok (.istore_n 2, 1) := by decide +kernel
theorem d_L_change_2 : decode b_L_change 2 = .ok (.iload_n 2, 1) := by decide +kernel
theorem d_L_change_3 : decode b_L_change 3 = .ok (.bipush 18, 2) := by decide +kernel
theorem d_L_change_5 : decode b_L_change 5 = .ok (.if_icmp .ge 65, 3) := by decide +kernel
theorem d_L_change_8 : decode b_L_change 8 = .ok (.aload_n 0, 1) := by decide +kernel
theorem d_L_change_9 : decode b_L_change 9 = .ok (.iload_n 1, 1) := by decide +kernel
theorem d_L_change_10 : decode b_L_change 10 = .ok (.iload_n 2, 1) := by decide +kernel
theorem d_L_change_11 : decode b_L_change 11 = .ok (.invokevirtual 38, 3) := by decide +kernel
theorem d_L_change_14 : decode b_L_change 14 = .ok (.ifCond .eq 6, 3) := by decide +kernel
theorem d_L_change_17 : decode b_L_change 17 = .ok (.goto 47, 3) := by decide +kernel
theorem d_L_change_20 : decode b_L_change 20 = .ok (.aload_n 0, 1) := by decide +kernel
theorem d_L_change_21 : decode b_L_change 21 = .ok (.getfield 9, 3) := by decide +kernel
theorem d_L_change_24 : decode b_L_change 24 = .ok (.iload_n 2, 1) := by decide +kernel
theorem d_L_change_25 : decode b_L_change 25 = .ok (.invokestatic 52, 3) := by decide +kernel
theorem d_L_change_28 : decode b_L_change 28 = .ok (.iload_n 2, 1) := by decide +kernel
theorem d_L_change_29 : decode b_L_change 29 = .ok (.invokestatic 55, 3) := by decide +kernel
theorem d_L_change_32 : decode b_L_change 32 = .ok (.invokevirtual 58, 3) := by decide +kernel
theorem d_L_change_35 : decode b_L_change 35 = .ok (.ifCond .ne 5, 3) := by decide +kernel
theorem d_L_change_38 : decode b_L_change 38 = .ok (.iconst 0, 1) := by decide +kernel
theorem d_L_change_39 : decode b_L_change 39 = .ok (.ireturn, 1) := by decide +kernel
theorem d_L_change_40 : decode b_L_change 40 = .ok (.aload_n 0, 1) := by decide +kernel
theorem d_L_change_41 : decode b_L_change 41 = .ok (.iload_n 1, 1) := by decide +kernel
theorem d_L_change_42 : decode b_L_change 42 = .ok (.iconst 4, 1) := by decide +kernel
theorem d_L_change_43 : decode b_L_change 43 = .ok (.iload_n 2, 1) := by decide +kernel
theorem d_L_change_44 : decode b_L_change 44 = .ok (.bipush 8, 2) := by decide +kernel
theorem d_L_change_46 : decode b_L_change 46 = .ok (.idiv, 1) := by decide +kernel
theorem d_L_change_47 : decode b_L_change 47 = .ok (.iadd, 1) := by decide +kernel
theorem d_L_change_48 : decode b_L_change 48 = .ok (.sipush 255, 3) := by decide +kernel
theorem d_L_change_51 : decode b_L_change 51 = .ok (.iload_n 2, 1) := by decide +kernel
theorem d_L_change_52 : decode b_L_change 52 = .ok (.invokestatic 61, 3) := by decide +kernel
theorem d_L_change_55 : decode b_L_change 55 = .ok (.ixor, 1) := by decide +kernel
theorem d_L_change_56 : decode b_L_change 56 = .ok (.invokevirtual 19, 3) := by decide +kernel
theorem d_L_change_59 : decode b_L_change 59 = .ok (.ifCond .ne 5, 3) := by decide +kernel
theorem d_L_change_62 : decode b_L_change 62 = .ok (.iconst 0, 1) := by decide +kernel
theorem d_L_change_63 : decode b_L_change 63 = .ok (.ireturn, 1) := by decide +kernel
theorem d_L_change_64 : decode b_L_change 64 = .ok (.iinc 2 1, 3) := by decide +kernel
theorem d_L_change_67 : decode b_L_change 67 = .ok (.goto (-65), 3) := by decide +kernel
theorem d_L_change_70 : decode b_L_change 70 = .ok (.iconst 1, 1) := by decide +kernel
theorem d_L_change_71 : decode b_L_change 71 = .ok (.ireturn, 1) := by decide +kernel
theorem d_L_isBusy_0 : decode b_L_isBusy 0 = .ok (.aload_n 0, 1) := by decide +kernel
theorem d_L_isBusy_1 : decode b_L_isBusy 1 = .ok (.bipush 13, 2) := by decide +kernel
theorem d_L_isBusy_3 : decode b_L_isBusy 3 = .ok (.invokevirtual 15, 3) := by decide +kernel
theorem d_L_isBusy_6 : decode b_L_isBusy 6 = .ok (.ifCond .ne 12, 3) := by decide +kernel
theorem d_L_isBusy_9 : decode b_L_isBusy 9 = .ok (.aload_n 0, 1) := by decide +kernel
theorem d_L_isBusy_10 : decode b_L_isBusy 10 = .ok (.bipush 14, 2) := by decide +kernel
theorem d_L_isBusy_12 : decode b_L_isBusy 12 = .ok (.invokevirtual 15, 3) := by decide +kernel
theorem d_L_isBusy_15 : decode b_L_isBusy 15 = .ok (.ifCond .eq 7, 3) := by decide +kernel
theorem d_L_isBusy_18 : decode b_L_isBusy 18 = .ok (.iconst 1, 1) := by decide +kernel
theorem d_L_isBusy_19 : decode b_L_isBusy 19 = .ok (.goto 4, 3) := by decide +kernel
theorem d_L_isBusy_22 : decode b_L_isBusy 22 = .ok (.iconst 0, 1) := by decide +kernel
theorem d_L_isBusy_23 : decode b_L_isBusy 23 = .ok (.ireturn, 1) := by decide +kernel
theorem d_L_askForChange_0 : decode b_L_askForChange 0 = .ok (.aload_n 0, 1) := by decide +kernel
theorem d_L_askForChange_1 : decode b_L_askForChange 1 = .ok (.bipush 13, 2) := by decide +kernel
theorem d_L_askForChange_3 : decode b_L_askForChange 3 = .ok (.iconst 0, 1) := by decide +kernel
theorem d_L_askForChange_4 : decode b_L_askForChange 4 = .ok (.bipush 15, 2) := by decide +kernel
theorem d_L_askForChange_6 : decode b_L_askForChange 6 = .ok (.invokevirtual 19, 3) := by decide +kernel
theorem d_L_askForChange_9 : decode b_L_askForChange 9 = .ok (.ireturn, 1) := by decide +kernel
theorem d_L_markConfirmed_0 : decode b_L_markConfirmed 0 = .ok (.aload_n 0, 1) := by decide +kernel
theorem d_L_markConfirmed_1 : decode b_L_markConfirmed 1 = .ok (.bipush 13, 2) := by decide +kernel
theorem d_L_markConfirmed_3 : decode b_L_markConfirmed 3 = .ok (.iconst 2, 1) := by decide +kernel
theorem d_L_markConfirmed_4 : decode b_L_markConfirmed 4 = .ok (.iconst 0, 1) := by decide +kernel
theorem d_L_markConfirmed_5 : decode b_L_markConfirmed 5 = .ok (.invokevirtual 19, 3) := by decide +kernel
theorem d_L_markConfirmed_8 : decode b_L_markConfirmed 8 = .ok (.ireturn, 1) := by decide +kernel
theorem d_L_awaitsConfirmation_0 : decode b_L_awaitsConfirmation 0 = .ok (.aload_n 0, 1) := by decide +kernel
theorem d_L_awaitsConfirmation_1 : decode b_L_awaitsConfirmation 1 = .ok (.iconst 1, 1) := by decide +kernel
theorem d_L_awaitsConfirmation_2 : decode b_L_awaitsConfirmation 2 = .ok (.invokevirtual 23, 3) := by decide +kernel
theorem d_L_awaitsConfirmation_5 : decode b_L_awaitsConfirmation 5 = .ok (.ifCond .eq 15, 3) := by decide +kernel
theorem d_L_awaitsConfirmation_8 : decode b_L_awaitsConfirmation 8 = .ok (.aload_n 0, 1) := by decide +kernel
theorem d_L_awaitsConfirmation_9 : decode b_L_awaitsConfirmation 9 = .ok (.iconst 2, 1) := by decide +kernel
theorem d_L_awaitsConfirmation_10 : decode b_L_awaitsConfirmation 10 = .ok (.invokevirtual 23, 3) := by decide +kernel
theorem d_L_awaitsConfirmation_13 : decode b_L_awaitsConfirmation 13 = .ok (.ifCond .ne 7, 3) := by decide +kernel
theorem d_L_awaitsConfirmation_16 : decode b_L_awaitsConfirmation 16 = .ok (.iconst 1, 1) := by decide +kernel
theorem d_L_awaitsConfirmation_17 : decode b_L_awaitsConfirmation 17 = .ok (.goto 4, 3) := by decide +kernel
theorem d_L_awaitsConfirmation_20 : decode b_L_awaitsConfirmation 20 = .ok (.iconst 0, 1) := by decide +kernel
theorem d_L_awaitsConfirmation_21 : decode b_L_awaitsConfirmation 21 = .ok (.ireturn, 1) := by decide +kernel
theorem d_L_changeBack_0 : decode b_L_changeBack 0 = .ok (.aload_n 0, 1) := by decide +kernel
theorem d_L_changeBack_1 : decode b_L_changeBack 1 = .ok (.bipush 14, 2) := by decide +kernel
theorem d_L_changeBack_3 : decode b_L_changeBack 3 = .ok (.invokevirtual 49, 3) := by decide +kernel
theorem d_L_changeBack_6 : decode b_L_changeBack 6 = .ok (.ifCond .eq 31, 3) := by decide +kernel
theorem d_L_changeBack_9 : decode b_L_changeBack 9 = .ok (.aload_n 0, 1) := by decide +kernel
theorem d_L_changeBack_10 : decode b_L_changeBack 10 = .ok (.getfield 9, 3) := by decide +kernel
theorem d_L_changeBack_13 : decode b_L_changeBack 13 = .ok (.bipush 13, 2) := by decide +kernel
theorem d_L_changeBack_15 : decode b_L_changeBack 15 = .ok (.invokevirtual 33, 3) := by decide +kernel
theorem d_L_changeBack_18 : decode b_L_changeBack 18 = .ok (.ifCond .eq 19, 3) := by decide +kernel
theorem d_L_changeBack_21 : decode b_L_changeBack 21 = .ok (.aload_n 0, 1) := by decide +kernel
theorem d_L_changeBack_22 : decode b_L_changeBack 22 = .ok (.getfield 9, 3) := by decide +kernel
theorem d_L_changeBack_25 : decode b_L_changeBack 25 = .ok (.bipush 14, 2) := by decide +kernel
theorem d_L_changeBack_27 : decode b_L_changeBack 27 = .ok (.invokevirtual 33, 3) := by decide +kernel
theorem d_L_changeBack_30 : decode b_L_changeBack 30 = .ok (.ifCond .eq 7, 3) := by decide +kernel
theorem d_L_changeBack_33 : decode b_L_changeBack 33 = .ok (.iconst 1, 1) := by decide +kernel
theorem d_L_changeBack_34 : decode b_L_changeBack 34 = .ok (.goto 4, 3) := by decide +kernel
theorem d_L_changeBack_37 : decode b_L_changeBack 37 = .ok (.iconst 0, 1) := by decide +kernel
theorem d_L_changeBack_38 : decode b_L_changeBack 38 = .ok (.ireturn, 1) := by decide +kernel
theorem d_L_tryNext_0 : decode b_L_tryNext 0 = .ok (.aload_n 0, 1) := by decide +kernel
theorem d_L_tryNext_1 : decode b_L_tryNext 1 = .ok (.bipush 13, 2) := by decide +kernel
theorem d_L_tryNext_3 : decode b_L_tryNext 3 = .ok (.invokevirtual 42, 3) := by decide +kernel
theorem d_L_tryNext_6 : decode b_L_tryNext 6 = .ok (.ifCond .ne 25, 3) := by decide +kernel
theorem d_L_tryNext_9 : decode b_L_tryNext 9 = .ok (.aload_n 0, 1) := by decide +kernel
theorem d_L_tryNext_10 : decode b_L_tryNext 10 = .ok (.getfield 9, 3) := by decide +kernel
theorem d_L_tryNext_13 : decode b_L_tryNext 13 = .ok (.bipush 96, 2) := by decide +kernel
theorem d_L_tryNext_15 : decode b_L_tryNext 15 = .ok (.invokevirtual 46, 3) := by decide +kernel
theorem d_L_tryNext_18 : decode b_L_tryNext 18 = .ok (.ifCond .ne 13, 3) := by decide +kernel
theorem d_L_tryNext_21 : decode b_L_tryNext 21 = .ok (.aload_n 0, 1) := by decide +kernel
theorem d_L_tryNext_22 : decode b_L_tryNext 22 = .ok (.getfield 9, 3) := by decide +kernel
theorem d_L_tryNext_25 : decode b_L_tryNext 25 = .ok (.bipush 13, 2) := by decide +kernel
theorem d_L_tryNext_27 : decode b_L_tryNext 27 = .ok (.invokevirtual 33, 3) := by decide +kernel
theorem d_L_tryNext_30 : decode b_L_tryNext 30 = .ok (.ireturn, 1) := by decide +kernel
theorem d_L_tryNext_31 : decode b_L_tryNext 31 = .ok (.aload_n 0, 1) := by decide +kernel
theorem d_L_tryNext_32 : decode b_L_tryNext 32 = .ok (.bipush 13, 2) := by decide +kernel
theorem d_L_tryNext_34 : decode b_L_tryNext 34 = .ok (.invokevirtual 49, 3) := by decide +kernel
theorem d_L_tryNext_37 : decode b_L_tryNext 37 = .ok (.ifCond .eq 18, 3) := by decide +kernel
theorem d_L_tryNext_40 : decode b_L_tryNext 40 = .ok (.aload_n 0, 1) := by decide +kernel
theorem d_L_tryNext_41 : decode b_L_tryNext 41 = .ok (.bipush 13, 2) := by decide +kernel
theorem d_L_tryNext_43 : decode b_L_tryNext 43 = .ok (.iconst 1, 1) := by decide +kernel
theorem d_L_tryNext_44 : decode b_L_tryNext 44 = .ok (.iconst 0, 1) := by decide +kernel
theorem d_L_tryNext_45 : decode b_L_tryNext 45 = .ok (.invokevirtual 19, 3) := by decide +kernel
theorem d_L_tryNext_48 : decode b_L_tryNext 48 = .ok (.ifCond .eq 7, 3) := by decide +kernel
theorem d_L_tryNext_51 : decode b_L_tryNext 51 = .ok (.iconst 1, 1) := by decide +kernel
theorem d_L_tryNext_52 : decode b_L_tryNext 52 = .ok (.goto 4, 3) := by decide +kernel
theorem d_L_tryNext_55 : decode b_L_tryNext 55 = .ok (.iconst 0, 1) := by decide +kernel
theorem d_L_tryNext_56 : decode b_L_tryNext 56 = .ok (.ireturn, 1) := by decide +kernel
theorem d_L_markStarted_0 : decode b_L_markStarted 0 = .ok (.aload_n 0, 1) := by decide +kernel
theorem d_L_markStarted_1 : decode b_L_markStarted 1 = .ok (.bipush 13, 2) := by decide +kernel
theorem d_L_markStarted_3 : decode b_L_markStarted 3 = .ok (.invokevirtual 15, 3) := by decide +kernel
theorem d_L_markStarted_6 : decode b_L_markStarted 6 = .ok (.ifCond .eq 20, 3) := by decide +kernel
theorem d_L_markStarted_9 : decode b_L_markStarted 9 = .ok (.aload_n 0, 1) := by decide +kernel
theorem d_L_markStarted_10 : decode b_L_markStarted 10 = .ok (.iconst 1, 1) := by decide +kernel
theorem d_L_markStarted_11 : decode b_L_markStarted 11 = .ok (.invokevirtual 23, 3) := by decide +kernel
theorem d_L_markStarted_14 : decode b_L_markStarted 14 = .ok (.ifCond .eq 12, 3) := by decide +kernel
theorem d_L_markStarted_17 : decode b_L_markStarted 17 = .ok (.aload_n 0, 1) := by decide +kernel
theorem d_L_markStarted_18 : decode b_L_markStarted 18 = .ok (.bipush 13, 2) := by decide +kernel
theorem d_L_markStarted_20 : decode b_L_markStarted 20 = .ok (.iconst 3, 1) := by decide +kernel
theorem d_L_markStarted_21 : decode b_L_markStarted 21 = .ok (.iconst 0, 1) := by decide +kernel
theorem d_L_markStarted_22 : decode b_L_markStarted 22 = .ok (.invokevirtual 19, 3) := by decide +kernel
theorem d_L_markStarted_25 : decode b_L_markStarted 25 = .ok (.ireturn, 1) := by decide +kernel
theorem d_L_markStarted_26 : decode b_L_markStarted 26 = .ok (.iconst 1, 1) := by decide +kernel
theorem d_L_markStarted_27 : decode b_L_markStarted 27 = .ok (.ireturn, 1) := by decide +kernel
theorem d_L_followLogs_0 : decode b_L_followLogs 0 = .ok (.aload_n 0, 1) := by decide +kernel
theorem d_L_followLogs_1 : decode b_L_followLogs 1 = .ok (.bipush 14, 2) := by decide +kernel
theorem d_L_followLogs_3 : decode b_L_followLogs 3 = .ok (.invokevirtual 15, 3) := by decide +kernel
theorem d_L_followLogs_6 : decode b_L_followLogs 6 = .ok (.ifCond .eq 8, 3) := by decide +kernel
theorem d_L_followLogs_9 : decode b_L_followLogs 9 = .ok (.aload_n 0, 1) := by decide +kernel
theorem d_L_followLogs_10 : decode b_L_followLogs 10 = .ok (.invokevirtual 26, 3) := by decide +kernel
theorem d_L_followLogs_13 : decode b_L_followLogs 13 = .ok (.ireturn, 1) := by decide +kernel
theorem d_L_followLogs_14 : decode b_L_followLogs 14 = .ok (.aload_n 0, 1) := by decide +kernel
theorem d_L_followLogs_15 : decode b_L_followLogs 15 = .ok (.bipush 13, 2) := by decide +kernel
theorem d_L_followLogs_17 : decode b_L_followLogs 17 = .ok (.invokevirtual 15, 3) := by decide +kernel
theorem d_L_followLogs_20 : decode b_L_followLogs 20 = .ok (.ifCond .ne 5, 3) := by decide +kernel
theorem d_L_followLogs_23 : decode b_L_followLogs 23 = .ok (.iconst 1, 1) := by decide +kernel
theorem d_L_followLogs_24 : decode b_L_followLogs 24 = .ok (.ireturn, 1) := by decide +kernel
theorem d_L_followLogs_25 : decode b_L_followLogs 25 = .ok (.aload_n 0, 1) := by decide +kernel
theorem d_L_followLogs_26 : decode b_L_followLogs 26 = .ok (.iconst 1, 1) := by decide +kernel
theorem d_L_followLogs_27 : decode b_L_followLogs 27 = .ok (.invokevirtual 23, 3) := by decide +kernel
theorem d_L_followLogs_30 : decode b_L_followLogs 30 = .ok (.ifCond .ne 8, 3) := by decide +kernel
theorem d_L_followLogs_33 : decode b_L_followLogs 33 = .ok (.aload_n 0, 1) := by decide +kernel
theorem d_L_followLogs_34 : decode b_L_followLogs 34 = .ok (.invokevirtual 30, 3) := by decide +kernel
theorem d_L_followLogs_37 : decode b_L_followLogs 37 = .ok (.ireturn, 1) := by decide +kernel
theorem d_L_followLogs_38 : decode b_L_followLogs 38 = .ok (.aload_n 0, 1) := by decide +kernel
theorem d_L_followLogs_39 : decode b_L_followLogs 39 = .ok (.iconst 2, 1) := by decide +kernel
theorem d_L_followLogs_40 : decode b_L_followLogs 40 = .ok (.invokevirtual 23, 3) := by decide +kernel
theorem d_L_followLogs_43 : decode b_L_followLogs 43 = .ok (.ifCond .eq 13, 3) := by decide +kernel
theorem d_L_followLogs_46 : decode b_L_followLogs 46 = .ok (.aload_n 0, 1) := by decide +kernel
theorem d_L_followLogs_47 : decode b_L_followLogs 47 = .ok (.getfield 9, 3) := by decide +kernel
theorem d_L_followLogs_50 : decode b_L_followLogs 50 = .ok (.bipush 13, 2) := by decide +kernel
theorem d_L_followLogs_52 : decode b_L_followLogs 52 = .ok (.invokevirtual 33, 3) := by decide +kernel
theorem d_L_followLogs_55 : decode b_L_followLogs 55 = .ok (.ireturn, 1) := by decide +kernel
theorem d_L_followLogs_56 : decode b_L_followLogs 56 = .ok (.aload_n 0, 1) := by decide +kernel
theorem d_L_followLogs_57 : decode b_L_followLogs 57 = .ok (.iconst 3, 1) := by decide +kernel
theorem d_L_followLogs_58 : decode b_L_followLogs 58 = .ok (.invokevirtual 23, 3) := by decide +kernel
theorem d_L_followLogs_61 : decode b_L_followLogs 61 = .ok (.ifCond .eq 28, 3) := by decide +kernel
theorem d_L_followLogs_64 : decode b_L_followLogs 64 = .ok (.aload_n 0, 1) := by decide +kernel
theorem d_L_followLogs_65 : decode b_L_followLogs 65 = .ok (.bipush 14, 2) := by decide +kernel
theorem d_L_followLogs_67 : decode b_L_followLogs 67 = .ok (.iconst 0, 1) := by decide +kernel
theorem d_L_followLogs_68 : decode b_L_followLogs 68 = .ok (.bipush 15, 2) := by decide +kernel
theorem d_L_followLogs_70 : decode b_L_followLogs 70 = .ok (.invokevirtual 19, 3) := by decide +kernel
theorem d_L_followLogs_73 : decode b_L_followLogs 73 = .ok (.ifCond .eq 14, 3) := by decide +kernel
theorem d_L_followLogs_76 : decode b_L_followLogs 76 = .ok (.aload_n 0, 1) := by decide +kernel
theorem d_L_followLogs_77 : decode b_L_followLogs 77 = .ok (.invokevirtual 26, 3) := by decide +kernel
theorem d_L_followLogs_80 : decode b_L_followLogs 80 = .ok (.ifCond .eq 7, 3) := by decide +kernel
theorem d_L_followLogs_83 : decode b_L_followLogs 83 = .ok (.iconst 1, 1) := by decide +kernel
theorem d_L_followLogs_84 : decode b_L_followLogs 84 = .ok (.goto 4, 3) := by decide +kernel
theorem d_L_followLogs_87 : decode b_L_followLogs 87 = .ok (.iconst 0, 1) := by decide +kernel
theorem d_L_followLogs_88 : decode b_L_followLogs 88 = .ok (.ireturn, 1) := by decide +kernel
theorem d_L_followLogs_89 : decode b_L_followLogs 89 = .ok (.iconst 1, 1) := by decide +kernel
theorem d_L_followLogs_90 : decode b_L_followLogs 90 = .ok (.ireturn, 1) := by decide +kernel
set_option maxHeartbeats 4000000 in
set_option maxRecDepth 100000 in
theorem k_L_readLog (l : Launch) (D : va_G) (cA : ClassId) (aX aF aB aL aP : Nat) (st : St) (sz : Nat) (g a : Nat) (h : g * 16 + a < 240) : Ci l y_L_readLog b_L_readLog 3 (some .int) 1 D cA (CW cA aX aF aB aL aP) st sz [.ref aL, .int (nI g), .int (nI a)] (fun r u => r = st.1.1 (g * 16 + a) ∧ u = st) := by
  refine Ci.enter (by decide) (Nat.le_of_ble_eq_true rfl) ?_
  intro pr en s0 m0 ar bl me co A ls hx hb hml hr hlk hown hts hK hN hA hP hD hS hl
  have hl : lv_has ls 3 [(0, .ref aL), (1, .int (nI g)), (2, .int (nI a))] := hl
  have hown : s0.vm.findClass R_L = some m0.cls := hown
  refine lv_aload_n hx hb d_L_readLog_0 rfl (lv_at hl 0 rfl) ?_
  refine va_get (D := D) (ci := 2) (v := .ref aF) (C := R_L) (T := T_L) (N := 1) hx hb hts in_L hown hK hP 3 rfl rfl 0 (by decide) (hts _ wm_44) (fun _ h9 => h9) rfl d_L_readLog_1 ?_
  refine lv_iload_n hx hb d_L_readLog_4 rfl (lv_at hl 1 rfl) ?_
  refine lv_bipush (v := 16) hx hb d_L_readLog_5 (by decide) ?_
  refine lv_imul hx hb d_L_readLog_7 ?_
  refine sw_tp (y := nI (g * 16)) (pk_mul g 16) ?_
  refine lv_iload_n hx hb d_L_readLog_8 rfl (lv_at hl 2 rfl) ?_
  refine lv_iadd hx hb d_L_readLog_9 ?_
  refine sw_tp (y := nI ((g * 16) + a)) (nI_add (g * 16) a) ?_
  refine sw_callVi (rest := []) 1 1 [.int (nI ((g * 16) + a))] hx hb hml hown hts hK hN hA hP hD hS (k_F_read l D cA aX aF aB aL aP st _ ((g * 16) + a) (by omega)) cw_L_68 rfl rfl rfl ⟨Nat.le_of_ble_eq_true rfl, Nat.le_of_ble_eq_true rfl⟩ hl.1 rfl rfl (Nat.le_of_ble_eq_true rfl) d_L_readLog_10 (fun r10 u10 H locs hq10 hP hD hS => ?_)
  obtain ⟨hr10, hq10⟩ := hq10
  rw [hr10]
  rw [hq10] at hP hD
  refine sw_iret (u := st) (v := (st.1.1 ((g * 16) + a))) hx hb hr hlk hK hP hD hS d_L_readLog_13 rfl ?_
  exact ⟨rfl, rfl⟩
set_option maxHeartbeats 4000000 in
set_option maxRecDepth 100000 in
theorem k_L_writeLog (l : Launch) (D : va_G) (cA : ClassId) (aX aF aB aL aP : Nat) (st : St) (sz : Nat) (g a : Nat) (v : Int32) (h : g * 16 + a < 240) : Ci l y_L_writeLog b_L_writeLog 4 (some .boolean) 2 D cA (CW cA aX aF aB aL aP) st sz [.ref aL, .int (nI g), .int (nI a), .int v] (fun r u => r = b2i (!(pwrite (g * 16 + a) v (st.1, false)).2) ∧ u = ((pwrite (g * 16 + a) v (st.1, false)).1, st.2)) := by
  refine Ci.enter (by decide) (Nat.le_of_ble_eq_true rfl) ?_
  intro pr en s0 m0 ar bl me co A ls hx hb hml hr hlk hown hts hK hN hA hP hD hS hl
  have hl : lv_has ls 4 [(0, .ref aL), (1, .int (nI g)), (2, .int (nI a)), (3, .int v)] := hl
  have hown : s0.vm.findClass R_L = some m0.cls := hown
  refine lv_aload_n hx hb d_L_writeLog_0 rfl (lv_at hl 0 rfl) ?_
  refine va_get (D := D) (ci := 2) (v := .ref aF) (C := R_L) (T := T_L) (N := 1) hx hb hts in_L hown hK hP 3 rfl rfl 0 (by decide) (hts _ wm_44) (fun _ h9 => h9) rfl d_L_writeLog_1 ?_
  refine lv_iload_n hx hb d_L_writeLog_4 rfl (lv_at hl 1 rfl) ?_
  refine lv_bipush (v := 16) hx hb d_L_writeLog_5 (by decide) ?_
  refine lv_imul hx hb d_L_writeLog_7 ?_
  refine sw_tp (y := nI (g * 16)) (pk_mul g 16) ?_
  refine lv_iload_n hx hb d_L_writeLog_8 rfl (lv_at hl 2 rfl) ?_
  refine lv_iadd hx hb d_L_writeLog_9 ?_
  refine sw_tp (y := nI ((g * 16) + a)) (nI_add (g * 16) a) ?_
  refine lv_iload_n hx hb d_L_writeLog_10 rfl (lv_at hl 3 rfl) ?_
  refine sw_callVi (rest := []) 1 1 [.int (nI ((g * 16) + a)), .int v] hx hb hml hown hts hK hN hA hP hD hS (k_F_writeByte l D cA aX aF aB aL aP st _ ((g * 16) + a) v (by omega)) cw_L_71 rfl rfl rfl ⟨Nat.le_of_ble_eq_true rfl, Nat.le_of_ble_eq_true rfl⟩ hl.1 rfl rfl (Nat.le_of_ble_eq_true rfl) d_L_writeLog_11 (fun r11 u11 H locs hq11 hP hD hS => ?_)
  obtain ⟨hr11, hu11⟩ := hq11
  rw [hr11]
  refine sw_iret (u := u11) (v := b2i (!(pwrite ((g * 16) + a) v (st.1, false)).2)) hx hb hr hlk hK hP hD hS d_L_writeLog_14 (nb_b2i _) ?_
  exact ⟨rfl, hu11⟩
set_option maxHeartbeats 4000000 in
set_option maxRecDepth 100000 in
theorem k_L_isSo (l : Launch) (D : va_G) (cA : ClassId) (aX aF aB aL aP : Nat) (st : St) (sz : Nat) (a : Nat) (h : a < 16) : Ci l y_L_isSo b_L_isSo 2 (some .boolean) 2 D cA (CW cA aX aF aB aL aP) st sz [.ref aL, .int (nI a)] (fun r u => r = b2i (decide (st.1.1 (13 * 16 + a) = 0)) ∧ u = st) := by
  refine Ci.enter (by decide) (Nat.le_of_ble_eq_true rfl) ?_
  intro pr en s0 m0 ar bl me co A ls hx hb hml hr hlk hown hts hK hN hA hP hD hS hl
  have hl : lv_has ls 2 [(0, .ref aL), (1, .int (nI a))] := hl
  have hown : s0.vm.findClass R_L = some m0.cls := hown
  refine lv_aload_n hx hb d_L_isSo_0 rfl (lv_at hl 0 rfl) ?_
  refine lv_bipush (v := 13) hx hb d_L_isSo_1 (by decide) ?_
  refine lv_iload_n hx hb d_L_isSo_3 rfl (lv_at hl 1 rfl) ?_
  refine sw_callVi (rest := []) 3 2 [.int (nI 13), .int (nI a)] hx hb hml hown hts hK hN hA hP hD hS (k_L_readLog l D cA aX aF aB aL aP st _ 13 a (by omega)) cw_L_64 rfl rfl rfl ⟨Nat.le_of_ble_eq_true rfl, Nat.le_of_ble_eq_true rfl⟩ hl.1 rfl rfl (Nat.le_of_ble_eq_true rfl) d_L_isSo_4 (fun r4 u4 H locs hq4 hP hD hS => ?_)
  obtain ⟨hr4, hq4⟩ := hq4
  rw [hr4]
  rw [hq4] at hP hD
  refine lv_if_ne (tgt := 14) hx hb d_L_isSo_7 (by decide) (fun h7 => ?_) (fun h7 => ?_)
  · skip
    refine lv_iconst (v := 0) hx hb d_L_isSo_14 (by decide) ?_
    refine sw_iret (u := st) (v := (0 : Int32)) hx hb hr hlk hK hP hD hS d_L_isSo_15 rfl ?_
    exact ⟨b2i_f h7, rfl⟩
  · skip
    refine lv_iconst (v := 1) hx hb d_L_isSo_10 (by decide) ?_
    refine lv_goto (tgt := 15) hx hb d_L_isSo_11 (by decide) ?_
    refine sw_iret (u := st) (v := (1 : Int32)) hx hb hr hlk hK hP hD hS d_L_isSo_15 rfl ?_
    exact ⟨b2i_t h7, rfl⟩
set_option maxHeartbeats 4000000 in
set_option maxRecDepth 100000 in
theorem k_L_hasRequest (l : Launch) (D : va_G) (cA : ClassId) (aX aF aB aL aP : Nat) (st : St) (sz : Nat) (g : Nat) (h : g < 15) : Ci l y_L_hasRequest b_L_hasRequest 2 (some .boolean) 2 D cA (CW cA aX aF aB aL aP) st sz [.ref aL, .int (nI g)] (fun r u => r = b2i (decide (st.1.1 (g * 16 + 0) = 15)) ∧ u = st) := by
  refine Ci.enter (by decide) (Nat.le_of_ble_eq_true rfl) ?_
  intro pr en s0 m0 ar bl me co A ls hx hb hml hr hlk hown hts hK hN hA hP hD hS hl
  have hl : lv_has ls 2 [(0, .ref aL), (1, .int (nI g))] := hl
  have hown : s0.vm.findClass R_L = some m0.cls := hown
  refine lv_aload_n hx hb d_L_hasRequest_0 rfl (lv_at hl 0 rfl) ?_
  refine lv_iload_n hx hb d_L_hasRequest_1 rfl (lv_at hl 1 rfl) ?_
  refine lv_iconst (v := 0) hx hb d_L_hasRequest_2 (by decide) ?_
  refine sw_callVi (rest := []) 3 2 [.int (nI g), .int (nI 0)] hx hb hml hown hts hK hN hA hP hD hS (k_L_readLog l D cA aX aF aB aL aP st _ g 0 (by omega)) cw_L_64 rfl rfl rfl ⟨Nat.le_of_ble_eq_true rfl, Nat.le_of_ble_eq_true rfl⟩ hl.1 rfl rfl (Nat.le_of_ble_eq_true rfl) d_L_hasRequest_3 (fun r3 u3 H locs hq3 hP hD hS => ?_)
  obtain ⟨hr3, hq3⟩ := hq3
  rw [hr3]
  rw [hq3] at hP hD
  refine lv_bipush (v := 15) hx hb d_L_hasRequest_6 (by decide) ?_
  refine lv_icmp_ne (tgt := 15) hx hb d_L_hasRequest_8 (by decide) (fun h8 => ?_) (fun h8 => ?_)
  · skip
    refine lv_iconst (v := 0) hx hb d_L_hasRequest_15 (by decide) ?_
    refine sw_iret (u := st) (v := (0 : Int32)) hx hb hr hlk hK hP hD hS d_L_hasRequest_16 rfl ?_
    exact ⟨b2i_f h8, rfl⟩
  · skip
    refine lv_iconst (v := 1) hx hb d_L_hasRequest_11 (by decide) ?_
    refine lv_goto (tgt := 16) hx hb d_L_hasRequest_12 (by decide) ?_
    refine sw_iret (u := st) (v := (1 : Int32)) hx hb hr hlk hK hP hD hS d_L_hasRequest_16 rfl ?_
    exact ⟨b2i_t h8, rfl⟩
set_option maxHeartbeats 4000000 in
set_option maxRecDepth 100000 in
theorem k_L_bitOf (l : Launch) (D : va_G) (cA : ClassId) (aX aF aB aL aP : Nat) (st : St) (sz : Nat) (k : Nat) (h : k < 18) : Ci l y_L_bitOf b_L_bitOf 1 (some .int) 0 D cA (CW cA aX aF aB aL aP) st sz [.int (nI k)] (fun r u => r = nI (2 ^ (k % 8)) ∧ u = st) := by
  refine Ci.enter (by decide) (Nat.le_of_ble_eq_true rfl) ?_
  intro pr en s0 m0 ar bl me co A ls hx hb hml hr hlk hown hts hK hN hA hP hD hS hl
  have hl : lv_has ls 1 [(0, .int (nI k))] := hl
  have hown : s0.vm.findClass R_L = some m0.cls := hown
  refine lv_iconst (v := 1) hx hb d_L_bitOf_0 (by decide) ?_
  refine lv_iload_n hx hb d_L_bitOf_1 rfl (lv_at hl 0 rfl) ?_
  refine lv_bipush (v := 8) hx hb d_L_bitOf_2 (by decide) ?_
  refine lv_irem hx hb d_L_bitOf_4 (by decide) ?_
  refine sw_tp (y := nI (k % 8)) (pk_rem (a := k) (d := 8) (by omega) (by decide) (by decide)) ?_
  refine lv_ishl hx hb d_L_bitOf_5 ?_
  refine sw_tp (y := nI (2 ^ (k % 8))) (pbit_shl k h) ?_
  refine sw_iret (u := st) (v := nI (2 ^ (k % 8))) hx hb hr hlk hK hP hD hS d_L_bitOf_6 rfl ?_
  exact ⟨rfl, rfl⟩
set_option maxHeartbeats 4000000 in
set_option maxRecDepth 100000 in
theorem k_L_sourceOf (l : Launch) (D : va_G) (cA : ClassId) (aX aF aB aL aP : Nat) (st : St) (sz : Nat) (k : Nat) (h : k < 18) : Ci l y_L_sourceOf b_L_sourceOf 1 (some .int) 0 D cA (CW cA aX aF aB aL aP) st sz [.int (nI k)] (fun r u => r = nI (psrc k) ∧ u = st) := by
  refine Ci.enter (by decide) (Nat.le_of_ble_eq_true rfl) ?_
  intro pr en s0 m0 ar bl me co A ls hx hb hml hr hlk hown hts hK hN hA hP hD hS hl
  have hl : lv_has ls 1 [(0, .int (nI k))] := hl
  have hown : s0.vm.findClass R_L = some m0.cls := hown
  refine lv_iload_n hx hb d_L_sourceOf_0 rfl (lv_at hl 0 rfl) ?_
  refine lv_iconst (v := 3) hx hb d_L_sourceOf_1 (by decide) ?_
  refine lv_irem hx hb d_L_sourceOf_2 (by decide) ?_
  refine sw_tp (y := nI (k % 3)) (pk_rem (a := k) (d := 3) (by omega) (by decide) (by decide)) ?_
  rcases (show k % 3 = 0 ∨ k % 3 = 1 ∨ k % 3 = 2 by omega) with hk | hk | hk
  · skip
    refine sw_tp (y := 0) (niE hk) ?_
    refine lv_lookup (tgt := 28) (off := 25) hx hb d_L_sourceOf_3 (by decide) (by decide) (by decide) ?_
    refine lv_iconst (v := 0) hx hb d_L_sourceOf_28 (by decide) ?_
    refine lv_iload_n hx hb d_L_sourceOf_29 rfl (lv_at hl 0 rfl) ?_
    refine lv_iconst (v := 3) hx hb d_L_sourceOf_30 (by decide) ?_
    refine lv_idiv hx hb d_L_sourceOf_31 (by decide) ?_
    refine sw_tp (y := nI (k / 3)) (pk_div (a := k) (d := 3) (by omega) (by decide) (by decide)) ?_
    refine lv_iadd hx hb d_L_sourceOf_32 ?_
    refine sw_tp (y := nI (k / 3)) ((nI_add 0 (k / 3)).trans (niE (by omega))) ?_
    refine sw_iret (u := st) (v := nI (k / 3)) hx hb hr hlk hK hP hD hS d_L_sourceOf_33 rfl ?_
    refine ⟨?_, rfl⟩
    unfold psrc
    simp [hk]
    try rfl
  · skip
    refine sw_tp (y := 1) (niE hk) ?_
    refine lv_lookup (tgt := 34) (off := 31) hx hb d_L_sourceOf_3 (by decide) (by decide) (by decide) ?_
    refine lv_bipush (v := 6) hx hb d_L_sourceOf_34 (by decide) ?_
    refine lv_iload_n hx hb d_L_sourceOf_36 rfl (lv_at hl 0 rfl) ?_
    refine lv_iconst (v := 3) hx hb d_L_sourceOf_37 (by decide) ?_
    refine lv_idiv hx hb d_L_sourceOf_38 (by decide) ?_
    refine sw_tp (y := nI (k / 3)) (pk_div (a := k) (d := 3) (by omega) (by decide) (by decide)) ?_
    refine lv_iadd hx hb d_L_sourceOf_39 ?_
    refine sw_tp (y := nI (6 + (k / 3))) (nI_add 6 (k / 3)) ?_
    refine sw_iret (u := st) (v := nI (6 + (k / 3))) hx hb hr hlk hK hP hD hS d_L_sourceOf_40 rfl ?_
    refine ⟨?_, rfl⟩
    unfold psrc
    simp [hk]
    try rfl
  · skip
    refine sw_tp (y := 2) (niE hk) ?_
    refine lv_lookup (tgt := 41) (off := 38) hx hb d_L_sourceOf_3 (by decide) (by decide) (by decide) ?_
    refine lv_bipush (v := 12) hx hb d_L_sourceOf_41 (by decide) ?_
    refine sw_iret (u := st) (v := (12 : Int32)) hx hb hr hlk hK hP hD hS d_L_sourceOf_43 rfl ?_
    refine ⟨?_, rfl⟩
    unfold psrc
    simp [hk]
    try rfl
set_option maxHeartbeats 4000000 in
set_option maxRecDepth 100000 in
theorem k_L_targetOf (l : Launch) (D : va_G) (cA : ClassId) (aX aF aB aL aP : Nat) (st : St) (sz : Nat) (k : Nat) (h : k < 18) : Ci l y_L_targetOf b_L_targetOf 1 (some .int) 0 D cA (CW cA aX aF aB aL aP) st sz [.int (nI k)] (fun r u => r = nI (ptgt k) ∧ u = st) := by
  refine Ci.enter (by decide) (Nat.le_of_ble_eq_true rfl) ?_
  intro pr en s0 m0 ar bl me co A ls hx hb hml hr hlk hown hts hK hN hA hP hD hS hl
  have hl : lv_has ls 1 [(0, .int (nI k))] := hl
  have hown : s0.vm.findClass R_L = some m0.cls := hown
  refine lv_iload_n hx hb d_L_targetOf_0 rfl (lv_at hl 0 rfl) ?_
  refine lv_iconst (v := 3) hx hb d_L_targetOf_1 (by decide) ?_
  refine lv_irem hx hb d_L_targetOf_2 (by decide) ?_
  refine sw_tp (y := nI (k % 3)) (pk_rem (a := k) (d := 3) (by omega) (by decide) (by decide)) ?_
  rcases (show k % 3 = 0 ∨ k % 3 = 1 ∨ k % 3 = 2 by omega) with hk | hk | hk
  · skip
    refine sw_tp (y := 0) (niE hk) ?_
    refine lv_lookup (tgt := 28) (off := 25) hx hb d_L_targetOf_3 (by decide) (by decide) (by decide) ?_
    refine lv_bipush (v := 12) hx hb d_L_targetOf_28 (by decide) ?_
    refine sw_iret (u := st) (v := (12 : Int32)) hx hb hr hlk hK hP hD hS d_L_targetOf_30 rfl ?_
    refine ⟨?_, rfl⟩
    unfold ptgt
    simp [hk]
    try rfl
  · skip
    refine sw_tp (y := 1) (niE hk) ?_
    refine lv_lookup (tgt := 31) (off := 28) hx hb d_L_targetOf_3 (by decide) (by decide) (by decide) ?_
    refine lv_iconst (v := 0) hx hb d_L_targetOf_31 (by decide) ?_
    refine lv_iload_n hx hb d_L_targetOf_32 rfl (lv_at hl 0 rfl) ?_
    refine lv_iconst (v := 3) hx hb d_L_targetOf_33 (by decide) ?_
    refine lv_idiv hx hb d_L_targetOf_34 (by decide) ?_
    refine sw_tp (y := nI (k / 3)) (pk_div (a := k) (d := 3) (by omega) (by decide) (by decide)) ?_
    refine lv_iadd hx hb d_L_targetOf_35 ?_
    refine sw_tp (y := nI (k / 3)) ((nI_add 0 (k / 3)).trans (niE (by omega))) ?_
    refine sw_iret (u := st) (v := nI (k / 3)) hx hb hr hlk hK hP hD hS d_L_targetOf_36 rfl ?_
    refine ⟨?_, rfl⟩
    unfold ptgt
    simp [hk]
    try rfl
  · skip
    refine sw_tp (y := 2) (niE hk) ?_
    refine lv_lookup (tgt := 37) (off := 34) hx hb d_L_targetOf_3 (by decide) (by decide) (by decide) ?_
    refine lv_bipush (v := 6) hx hb d_L_targetOf_37 (by decide) ?_
    refine lv_iload_n hx hb d_L_targetOf_39 rfl (lv_at hl 0 rfl) ?_
    refine lv_iconst (v := 3) hx hb d_L_targetOf_40 (by decide) ?_
    refine lv_idiv hx hb d_L_targetOf_41 (by decide) ?_
    refine sw_tp (y := nI (k / 3)) (pk_div (a := k) (d := 3) (by omega) (by decide) (by decide)) ?_
    refine lv_iadd hx hb d_L_targetOf_42 ?_
    refine sw_tp (y := nI (6 + (k / 3))) (nI_add 6 (k / 3)) ?_
    refine sw_iret (u := st) (v := nI (6 + (k / 3))) hx hb hr hlk hK hP hD hS d_L_targetOf_43 rfl ?_
    refine ⟨?_, rfl⟩
    unfold ptgt
    simp [hk]
    try rfl
set_option maxHeartbeats 4000000 in
set_option maxRecDepth 100000 in
theorem k_L_isStepDone (l : Launch) (D : va_G) (cA : ClassId) (aX aF aB aL aP : Nat) (st : St) (sz : Nat) (g k : Nat) (hg : g < 15) (h : k < 18) : Ci l y_L_isStepDone b_L_isStepDone 3 (some .boolean) 2 D cA (CW cA aX aF aB aL aP) st sz [.ref aL, .int (nI g), .int (nI k)] (fun r u => r = b2i (pdone st.1.1 g k) ∧ u = st) := by
  refine Ci.enter (by decide) (Nat.le_of_ble_eq_true rfl) ?_
  intro pr en s0 m0 ar bl me co A ls hx hb hml hr hlk hown hts hK hN hA hP hD hS hl
  have hl : lv_has ls 3 [(0, .ref aL), (1, .int (nI g)), (2, .int (nI k))] := hl
  have hown : s0.vm.findClass R_L = some m0.cls := hown
  refine lv_aload_n hx hb d_L_isStepDone_0 rfl (lv_at hl 0 rfl) ?_
  refine lv_iload_n hx hb d_L_isStepDone_1 rfl (lv_at hl 1 rfl) ?_
  refine lv_iconst (v := 4) hx hb d_L_isStepDone_2 (by decide) ?_
  refine lv_iload_n hx hb d_L_isStepDone_3 rfl (lv_at hl 2 rfl) ?_
  refine lv_bipush (v := 8) hx hb d_L_isStepDone_4 (by decide) ?_
  refine lv_idiv hx hb d_L_isStepDone_6 (by decide) ?_
  refine sw_tp (y := nI (k / 8)) (pk_div (a := k) (d := 8) (by omega) (by decide) (by decide)) ?_
  refine lv_iadd hx hb d_L_isStepDone_7 ?_
  refine sw_tp (y := nI (4 + (k / 8))) (nI_add 4 (k / 8)) ?_
  refine sw_callVi (rest := []) 3 2 [.int (nI g), .int (nI (4 + (k / 8)))] hx hb hml hown hts hK hN hA hP hD hS (k_L_readLog l D cA aX aF aB aL aP st _ g (4 + (k / 8)) (by omega)) cw_L_64 rfl rfl rfl ⟨Nat.le_of_ble_eq_true rfl, Nat.le_of_ble_eq_true rfl⟩ hl.1 rfl rfl (Nat.le_of_ble_eq_true rfl) d_L_isStepDone_8 (fun r8 u8 H locs hq8 hP hD hS => ?_)
  obtain ⟨hr8, hq8⟩ := hq8
  rw [hr8]
  rw [hq8] at hP hD
  refine lv_iload_n hx hb d_L_isStepDone_11 rfl (lv_at hl 2 rfl) ?_
  refine sw_callSi (rest := [.int (st.1.1 (g * 16 + (4 + (k / 8))))]) [.int (nI k)] hx hb hml hown hts hK hN hA hP hD hS (k_L_bitOf l D cA aX aF aB aL aP st _ k (by omega)) cw_L_61 ⟨Nat.le_of_ble_eq_true rfl, Nat.le_of_ble_eq_true rfl⟩ hl.1 rfl rfl (Nat.le_of_ble_eq_true rfl) d_L_isStepDone_12 (fun r12 u12 H locs hq12 hP hD hS => ?_)
  obtain ⟨hr12, hq12⟩ := hq12
  rw [hr12]
  rw [hq12] at hP hD
  refine lv_iand hx hb d_L_isStepDone_15 ?_
  refine lv_if_ne (tgt := 23) hx hb d_L_isStepDone_16 (by decide) (fun h16 => ?_) (fun h16 => ?_)
  · skip
    refine lv_iconst (v := 0) hx hb d_L_isStepDone_23 (by decide) ?_
    refine sw_iret (u := st) (v := (0 : Int32)) hx hb hr hlk hK hP hD hS d_L_isStepDone_24 rfl ?_
    exact ⟨b2i_f h16, rfl⟩
  · skip
    refine lv_iconst (v := 1) hx hb d_L_isStepDone_19 (by decide) ?_
    refine lv_goto (tgt := 24) hx hb d_L_isStepDone_20 (by decide) ?_
    refine sw_iret (u := st) (v := (1 : Int32)) hx hb hr hlk hK hP hD hS d_L_isStepDone_24 rfl ?_
    exact ⟨b2i_t h16, rfl⟩
set_option maxHeartbeats 4000000 in
set_option maxRecDepth 100000 in
theorem k_L_stepsDone (l : Launch) (D : va_G) (cA : ClassId) (aX aF aB aL aP : Nat) (st : St) (sz : Nat) (g : Nat) (hg : g < 15) : Ci l y_L_stepsDone b_L_stepsDone 4 (some .int) 3 D cA (CW cA aX aF aB aL aP) st sz [.ref aL, .int (nI g)] (fun r u => r = nI (pcnt st.1.1 g 18 0 0) ∧ u = st) := by
  refine Ci.enter (by decide) (Nat.le_of_ble_eq_true rfl) ?_
  intro pr en s0 m0 ar bl me co A ls hx hb hml hr hlk hown hts hK hN hA hP hD hS hl
  have hl : lv_has ls 4 [(0, .ref aL), (1, .int (nI g))] := hl
  have hown : s0.vm.findClass R_L = some m0.cls := hown
  refine lv_iconst (v := 0) hx hb d_L_stepsDone_0 (by decide) ?_
  refine lv_istore_n hx hb d_L_stepsDone_1 rfl hl (by decide) rfl (fun ls hl => ?_)
  have hl : lv_has ls 4 [(2, .int (0 : Int32)), (0, .ref aL), (1, .int (nI g))] := hl
  refine lv_iconst (v := 0) hx hb d_L_stepsDone_2 (by decide) ?_
  refine lv_istore_n hx hb d_L_stepsDone_3 rfl hl (by decide) rfl (fun ls hl => ?_)
  have hl : lv_has ls 4 [(3, .int (0 : Int32)), (2, .int (0 : Int32)), (0, .ref aL), (1, .int (nI g))] := hl
  have loop : ∀ (d : Nat) (k : Nat) (n : Nat) (H : Heap) (locs : List Loc) (ls : Array Slot), 18 - k = d → k ≤ 18 → pcnt st.1.1 g (18 - k) k n = pcnt st.1.1 g 18 0 0 → lv_has ls 4 [(3, .int (nI k)), (2, .int (nI n)), (0, .ref aL), (1, .int (nI g))] → va_P D vwC (CW cA aX aF aB aL aP st) H → va_D A (CW cA aX aF aB aL aP st) → va_S A s0.heap H locs → W pr l en (lvr 3) s0 m0 ar bl me co H locs 0 0 (MQ bl (va_Qi (fun r u => r = nI (pcnt st.1.1 g 18 0 0) ∧ u = st) (sw_B D cA A (CW cA aX aF aB aL aP)) A) ar s0 0 0 A) (F0 m0 4 ls []) := by
    intro d
    induction d using Nat.strongRecOn with
    | ind d ih =>
      intro k n H locs ls hd hk hT hl hP hD hS
      refine lv_iload_n hx hb d_L_stepsDone_4 rfl (lv_at hl 0 rfl) ?_
      refine lv_bipush (v := 18) hx hb d_L_stepsDone_5 (by decide) ?_
      refine sw_nc_ge (a := k) (b := 18) (tgt := 28) hx hb (by omega) (by omega) d_L_stepsDone_7 (by decide) (fun h7 => ?_) (fun h7 => ?_)
      · skip
        refine lv_iload_n hx hb d_L_stepsDone_28 rfl (lv_at hl 1 rfl) ?_
        refine sw_iret (u := st) (v := nI n) hx hb hr hlk hK hP hD hS d_L_stepsDone_29 rfl ?_
        have hk : k = 18 := by omega
        subst hk
        exact ⟨congrArg nI (pcnt_0.symm.trans hT), rfl⟩
      · skip
        refine lv_aload_n hx hb d_L_stepsDone_10 rfl (lv_at hl 2 rfl) ?_
        refine lv_iload_n hx hb d_L_stepsDone_11 rfl (lv_at hl 3 rfl) ?_
        refine lv_iload_n hx hb d_L_stepsDone_12 rfl (lv_at hl 0 rfl) ?_
        refine sw_callVi (rest := []) 3 2 [.int (nI g), .int (nI k)] hx hb hml hown hts hK hN hA hP hD hS (k_L_isStepDone l D cA aX aF aB aL aP st _ g k (by omega) (by omega)) cw_L_38 rfl rfl rfl ⟨Nat.le_of_ble_eq_true rfl, Nat.le_of_ble_eq_true rfl⟩ hl.1 rfl rfl (Nat.le_of_ble_eq_true rfl) d_L_stepsDone_13 (fun r13 u13 H locs hq13 hP hD hS => ?_)
        obtain ⟨hr13, hq13⟩ := hq13
        rw [hr13]
        rw [hq13] at hP hD
        refine sw_bz_eq (tgt := 22) hx hb d_L_stepsDone_16 (by decide) (fun h16 => ?_) (fun h16 => ?_)
        · skip
          refine lv_iinc (k := 0) (v := nI (k + 1)) hx hb d_L_stepsDone_22 hl rfl (nI_1 _) (by decide) rfl (fun ls hl => ?_)
          have hl : lv_has ls 4 [(3, .int (nI (k + 1))), (2, .int (nI n)), (0, .ref aL), (1, .int (nI g))] := hl
          refine lv_goto (tgt := 4) hx hb d_L_stepsDone_25 (by decide) ?_
          exact ih (18 - (k + 1)) (by omega) (k + 1) n _ _ _ rfl (by omega) (by rw [← hT, pcnt_s (k := k) (by omega), if_neg (by rw [h16]; decide)]) (lv_sub hl [0, 1, 2, 3] rfl) hP hD hS
        · skip
          refine lv_iinc (k := 1) (v := nI (n + 1)) hx hb d_L_stepsDone_19 hl rfl (nI_1 _) (by decide) rfl (fun ls hl => ?_)
          have hl : lv_has ls 4 [(2, .int (nI (n + 1))), (3, .int (nI k)), (0, .ref aL), (1, .int (nI g))] := hl
          refine lv_iinc (k := 1) (v := nI (k + 1)) hx hb d_L_stepsDone_22 hl rfl (nI_1 _) (by decide) rfl (fun ls hl => ?_)
          have hl : lv_has ls 4 [(3, .int (nI (k + 1))), (2, .int (nI (n + 1))), (0, .ref aL), (1, .int (nI g))] := hl
          refine lv_goto (tgt := 4) hx hb d_L_stepsDone_25 (by decide) ?_
          exact ih (18 - (k + 1)) (by omega) (k + 1) (n + 1) _ _ _ rfl (by omega) (by rw [← hT, pcnt_s (k := k) (by omega), if_pos h16]) (lv_sub hl [0, 1, 2, 3] rfl) hP hD hS
  exact loop _ 0 0 _ _ _ rfl (by omega) rfl (lv_sub hl [0, 1, 2, 3] rfl) hP hD hS
set_option maxHeartbeats 4000000 in
set_option maxRecDepth 100000 in
theorem k_L_change (l : Launch) (D : va_G) (cA : ClassId) (aX aF aB aL aP : Nat) (st : St) (sz : Nat) (g : Nat) (hg : g < 15) : Ci l y_L_change b_L_change 3 (some .boolean) 4 D cA (CW cA aX aF aB aL aP) st sz [.ref aL, .int (nI g)] (fun r u => r = b2i (!(pchange g (st.1, false)).2) ∧ u = ((pchange g (st.1, false)).1, st.2)) := by
  refine Ci.enter (by decide) (Nat.le_of_ble_eq_true rfl) ?_
  intro pr en s0 m0 ar bl me co A ls hx hb hml hr hlk hown hts hK hN hA hP hD hS hl
  have hl : lv_has ls 3 [(0, .ref aL), (1, .int (nI g))] := hl
  have hown : s0.vm.findClass R_L = some m0.cls := hown
  refine lv_iconst (v := 0) hx hb d_L_change_0 (by decide) ?_
  refine lv_istore_n hx hb d_L_change_1 rfl hl (by decide) rfl (fun ls hl => ?_)
  have hl : lv_has ls 3 [(2, .int (0 : Int32)), (0, .ref aL), (1, .int (nI g))] := hl
  have loop : ∀ (d : Nat) (k : Nat) (u : St) (H : Heap) (locs : List Loc) (ls : Array Slot), 18 - k = d → k ≤ 18 → pchl g (18 - k) k (u.1, false) = pchange g (st.1, false) → u.2 = st.2 → lv_has ls 3 [(2, .int (nI k)), (0, .ref aL), (1, .int (nI g))] → va_P D vwC (CW cA aX aF aB aL aP u) H → va_D A (CW cA aX aF aB aL aP u) → va_S A s0.heap H locs → W pr l en (lvr 4) s0 m0 ar bl me co H locs 0 0 (MQ bl (va_Qi (fun r u => r = b2i (!(pchange g (st.1, false)).2) ∧ u = ((pchange g (st.1, false)).1, st.2)) (sw_B D cA A (CW cA aX aF aB aL aP)) A) ar s0 0 0 A) (F0 m0 2 ls []) := by
    intro d
    induction d using Nat.strongRecOn with
    | ind d ih =>
      intro k u H locs ls hd hk hT hE hl hP hD hS
      refine lv_iload_n hx hb d_L_change_2 rfl (lv_at hl 0 rfl) ?_
      refine lv_bipush (v := 18) hx hb d_L_change_3 (by decide) ?_
      refine sw_nc_ge (a := k) (b := 18) (tgt := 70) hx hb (by omega) (by omega) d_L_change_5 (by decide) (fun h5 => ?_) (fun h5 => ?_)
      · skip
        refine lv_iconst (v := 1) hx hb d_L_change_70 (by decide) ?_
        refine sw_iret (u := u) (v := (1 : Int32)) hx hb hr hlk hK hP hD hS d_L_change_71 rfl ?_
        have hk : k = 18 := by omega
        subst hk
        have hz : pchange g (st.1, false) = (u.1, false) := (pchl_0.symm.trans hT).symm
        rw [hz]
        exact ⟨rfl, Prod.ext rfl hE⟩
      · skip
        refine lv_aload_n hx hb d_L_change_8 rfl (lv_at hl 1 rfl) ?_
        refine lv_iload_n hx hb d_L_change_9 rfl (lv_at hl 2 rfl) ?_
        refine lv_iload_n hx hb d_L_change_10 rfl (lv_at hl 0 rfl) ?_
        refine sw_callVi (rest := []) 3 2 [.int (nI g), .int (nI k)] hx hb hml hown hts hK hN hA hP hD hS (k_L_isStepDone l D cA aX aF aB aL aP u _ g k (by omega) (by omega)) cw_L_38 rfl rfl rfl ⟨Nat.le_of_ble_eq_true rfl, Nat.le_of_ble_eq_true rfl⟩ hl.1 rfl rfl (Nat.le_of_ble_eq_true rfl) d_L_change_11 (fun r11 u11 H locs hq11 hP hD hS => ?_)
        obtain ⟨hr11, hq11⟩ := hq11
        rw [hr11]
        rw [hq11] at hP hD
        refine sw_bz_eq (tgt := 20) hx hb d_L_change_14 (by decide) (fun h14 => ?_) (fun h14 => ?_)
        · skip
          refine lv_aload_n hx hb d_L_change_20 rfl (lv_at hl 1 rfl) ?_
          refine va_get (D := D) (ci := 2) (v := .ref aF) (C := R_L) (T := T_L) (N := 1) hx hb hts in_L hown hK hP 3 rfl rfl 0 (by decide) (hts _ wm_44) (fun _ h9 => h9) rfl d_L_change_21 ?_
          refine lv_iload_n hx hb d_L_change_24 rfl (lv_at hl 0 rfl) ?_
          refine sw_callSi (rest := [.ref aF]) [.int (nI k)] hx hb hml hown hts hK hN hA hP hD hS (k_L_sourceOf l D cA aX aF aB aL aP u _ k (by omega)) cw_L_52 ⟨Nat.le_of_ble_eq_true rfl, Nat.le_of_ble_eq_true rfl⟩ hl.1 rfl rfl (Nat.le_of_ble_eq_true rfl) d_L_change_25 (fun r25 u25 H locs hq25 hP hD hS => ?_)
          obtain ⟨hr25, hq25⟩ := hq25
          rw [hr25]
          rw [hq25] at hP hD
          refine lv_iload_n hx hb d_L_change_28 rfl (lv_at hl 0 rfl) ?_
          refine sw_callSi (rest := [.int (nI (psrc k)), .ref aF]) [.int (nI k)] hx hb hml hown hts hK hN hA hP hD hS (k_L_targetOf l D cA aX aF aB aL aP u _ k (by omega)) cw_L_55 ⟨Nat.le_of_ble_eq_true rfl, Nat.le_of_ble_eq_true rfl⟩ hl.1 rfl rfl (Nat.le_of_ble_eq_true rfl) d_L_change_29 (fun r29 u29 H locs hq29 hP hD hS => ?_)
          obtain ⟨hr29, hq29⟩ := hq29
          rw [hr29]
          rw [hq29] at hP hD
          refine sw_callVi (rest := []) 1 1 [.int (nI (psrc k)), .int (nI (ptgt k))] hx hb hml hown hts hK hN hA hP hD hS (k_F_movePage l D cA aX aF aB aL aP u _ (psrc k) (ptgt k) (psrc_lt h5) (ptgt_lt h5)) cw_L_58 rfl rfl rfl ⟨Nat.le_of_ble_eq_true rfl, Nat.le_of_ble_eq_true rfl⟩ hl.1 rfl rfl (Nat.le_of_ble_eq_true rfl) d_L_change_32 (fun r32 u32 H locs hq32 hP hD hS => ?_)
          obtain ⟨hr32, hu32⟩ := hq32
          rw [hr32]
          refine sw_bz_ne (tgt := 40) hx hb d_L_change_35 (by decide) (fun h35 => ?_) (fun h35 => ?_)
          · skip
            refine lv_aload_n hx hb d_L_change_40 rfl (lv_at hl 1 rfl) ?_
            refine lv_iload_n hx hb d_L_change_41 rfl (lv_at hl 2 rfl) ?_
            refine lv_iconst (v := 4) hx hb d_L_change_42 (by decide) ?_
            refine lv_iload_n hx hb d_L_change_43 rfl (lv_at hl 0 rfl) ?_
            refine lv_bipush (v := 8) hx hb d_L_change_44 (by decide) ?_
            refine lv_idiv hx hb d_L_change_46 (by decide) ?_
            refine sw_tp (y := nI (k / 8)) (pk_div (a := k) (d := 8) (by omega) (by decide) (by decide)) ?_
            refine lv_iadd hx hb d_L_change_47 ?_
            refine sw_tp (y := nI (4 + (k / 8))) (nI_add 4 (k / 8)) ?_
            refine lv_sipush (v := 255) hx hb d_L_change_48 (by decide) ?_
            refine lv_iload_n hx hb d_L_change_51 rfl (lv_at hl 0 rfl) ?_
            refine sw_callSi (rest := [.int (255 : Int32), .int (nI (4 + (k / 8))), .int (nI g), .ref aL]) [.int (nI k)] hx hb hml hown hts hK hN hA hP hD hS (k_L_bitOf l D cA aX aF aB aL aP u32 _ k (by omega)) cw_L_61 ⟨Nat.le_of_ble_eq_true rfl, Nat.le_of_ble_eq_true rfl⟩ hl.1 rfl rfl (Nat.le_of_ble_eq_true rfl) d_L_change_52 (fun r52 u52 H locs hq52 hP hD hS => ?_)
            obtain ⟨hr52, hq52⟩ := hq52
            rw [hr52]
            rw [hq52] at hP hD
            refine lv_ixor hx hb d_L_change_55 ?_
            refine sw_tp (y := nI (255 - 2 ^ (k % 8))) (pbit_xor k h5) ?_
            refine sw_callVi (rest := []) 3 2 [.int (nI g), .int (nI (4 + (k / 8))), .int (nI (255 - 2 ^ (k % 8)))] hx hb hml hown hts hK hN hA hP hD hS (k_L_writeLog l D cA aX aF aB aL aP u32 _ g (4 + (k / 8)) (nI (255 - 2 ^ (k % 8))) (by omega)) cw_L_19 rfl rfl rfl ⟨Nat.le_of_ble_eq_true rfl, Nat.le_of_ble_eq_true rfl⟩ hl.1 rfl rfl (Nat.le_of_ble_eq_true rfl) d_L_change_56 (fun r56 u56 H locs hq56 hP hD hS => ?_)
            obtain ⟨hr56, hu56⟩ := hq56
            rw [hr56]
            refine sw_bz_ne (tgt := 64) hx hb d_L_change_59 (by decide) (fun h59 => ?_) (fun h59 => ?_)
            · skip
              refine lv_iinc (k := 0) (v := nI (k + 1)) hx hb d_L_change_64 hl rfl (nI_1 _) (by decide) rfl (fun ls hl => ?_)
              have hl : lv_has ls 3 [(2, .int (nI (k + 1))), (0, .ref aL), (1, .int (nI g))] := hl
              refine lv_goto (tgt := 2) hx hb d_L_change_67 (by decide) ?_
              have e4 : (u32.1, false) = pmove (ptgt k) (psrc k) (u.1, false) := by rw [hu32]; exact mz_eq (mz_ok h35)
              have e6 : (u56.1, false) = pwrite (g * 16 + (4 + k / 8)) (nI (255 - 2 ^ (k % 8))) (u32.1, false) := by rw [hu56]; exact mz_eq (mz_ok h59)
              exact ih (18 - (k + 1)) (by omega) (k + 1) u56 _ _ _ rfl (by omega) (by rw [← hT, pchl_s (k := k) (by omega), pstep_go h14, ← e4, ← e6]) (by rw [hu56, hu32]; exact hE) (lv_sub hl [0, 1, 2] rfl) hP hD hS
            · skip
              refine lv_iconst (v := 0) hx hb d_L_change_62 (by decide) ?_
              refine sw_iret (u := u56) (v := (0 : Int32)) hx hb hr hlk hK hP hD hS d_L_change_63 rfl ?_
              have e4 : (u32.1, false) = pmove (ptgt k) (psrc k) (u.1, false) := by rw [hu32]; exact mz_eq (mz_ok h35)
              have hw := mz_no h59
              have hz : pchange g (st.1, false) = pwrite (g * 16 + (4 + k / 8)) (nI (255 - 2 ^ (k % 8))) (u32.1, false) := by rw [← hT, pchl_s (k := k) (by omega), pstep_go h14, ← e4, pchl_went hw]
              rw [hz, hw, hu56, show u32.2 = st.2 by rw [hu32]; exact hE]
              exact ⟨rfl, rfl⟩
          · skip
            refine lv_iconst (v := 0) hx hb d_L_change_38 (by decide) ?_
            refine sw_iret (u := u32) (v := (0 : Int32)) hx hb hr hlk hK hP hD hS d_L_change_39 rfl ?_
            have hw := mz_no h35
            have hz : pchange g (st.1, false) = pmove (ptgt k) (psrc k) (u.1, false) := by rw [← hT, pchl_s (k := k) (by omega), pstep_go h14, pwrite_went hw, pchl_went hw]
            rw [hz, hw, hu32, hE]
            exact ⟨rfl, rfl⟩
        · skip
          refine lv_goto (tgt := 64) hx hb d_L_change_17 (by decide) ?_
          refine lv_iinc (k := 0) (v := nI (k + 1)) hx hb d_L_change_64 hl rfl (nI_1 _) (by decide) rfl (fun ls hl => ?_)
          have hl : lv_has ls 3 [(2, .int (nI (k + 1))), (0, .ref aL), (1, .int (nI g))] := hl
          refine lv_goto (tgt := 2) hx hb d_L_change_67 (by decide) ?_
          exact ih (18 - (k + 1)) (by omega) (k + 1) u _ _ _ rfl (by omega) (by rw [← hT, pchl_s (k := k) (by omega), pstep_skip h14]) hE (lv_sub hl [0, 1, 2] rfl) hP hD hS
  exact loop _ 0 st _ _ _ rfl (by omega) rfl rfl (lv_sub hl [0, 1, 2] rfl) hP hD hS
set_option maxHeartbeats 4000000 in
set_option maxRecDepth 100000 in
theorem k_L_isBusy (l : Launch) (D : va_G) (cA : ClassId) (aX aF aB aL aP : Nat) (st : St) (sz : Nat) : Ci l y_L_isBusy b_L_isBusy 1 (some .boolean) 3 D cA (CW cA aX aF aB aL aP) st sz [.ref aL] (fun r u => r = b2i (cbusy st.1.1) ∧ u = st) := by
  refine Ci.enter (by decide) (Nat.le_of_ble_eq_true rfl) ?_
  intro pr en s0 m0 ar bl me co A ls hx hb hml hr hlk hown hts hK hN hA hP hD hS hl
  have hl : lv_has ls 1 [(0, .ref aL)] := hl
  have hown : s0.vm.findClass R_L = some m0.cls := hown
  refine lv_aload_n hx hb d_L_isBusy_0 rfl (lv_at hl 0 rfl) ?_
  refine lv_bipush (v := 13) hx hb d_L_isBusy_1 (by decide) ?_
  refine sw_callVi (rest := []) 3 2 [.int (nI 13)] hx hb hml hown hts hK hN hA hP hD hS (k_L_hasRequest l D cA aX aF aB aL aP st _ 13 (by omega)) cw_L_15 rfl rfl rfl ⟨Nat.le_of_ble_eq_true rfl, Nat.le_of_ble_eq_true rfl⟩ hl.1 rfl rfl (Nat.le_of_ble_eq_true rfl) d_L_isBusy_3 (fun r3 u3 H locs hq3 hP hD hS => ?_)
  obtain ⟨hr3, hq3⟩ := hq3
  rw [hr3]
  rw [hq3] at hP hD
  refine sw_bz_ne (tgt := 18) hx hb d_L_isBusy_6 (by decide) (fun h6 => ?_) (fun h6 => ?_)
  · skip
    refine lv_iconst (v := 1) hx hb d_L_isBusy_18 (by decide) ?_
    refine lv_goto (tgt := 23) hx hb d_L_isBusy_19 (by decide) ?_
    refine sw_iret (u := st) (v := (1 : Int32)) hx hb hr hlk hK hP hD hS d_L_isBusy_23 rfl ?_
    exact ⟨by rw [cbusy_t (Or.inl (of_decide_eq_true h6))]; rfl, rfl⟩
  · skip
    refine lv_aload_n hx hb d_L_isBusy_9 rfl (lv_at hl 0 rfl) ?_
    refine lv_bipush (v := 14) hx hb d_L_isBusy_10 (by decide) ?_
    refine sw_callVi (rest := []) 3 2 [.int (nI 14)] hx hb hml hown hts hK hN hA hP hD hS (k_L_hasRequest l D cA aX aF aB aL aP st _ 14 (by omega)) cw_L_15 rfl rfl rfl ⟨Nat.le_of_ble_eq_true rfl, Nat.le_of_ble_eq_true rfl⟩ hl.1 rfl rfl (Nat.le_of_ble_eq_true rfl) d_L_isBusy_12 (fun r12 u12 H locs hq12 hP hD hS => ?_)
    obtain ⟨hr12, hq12⟩ := hq12
    rw [hr12]
    rw [hq12] at hP hD
    refine sw_bz_eq (tgt := 22) hx hb d_L_isBusy_15 (by decide) (fun h15 => ?_) (fun h15 => ?_)
    · skip
      refine lv_iconst (v := 0) hx hb d_L_isBusy_22 (by decide) ?_
      refine sw_iret (u := st) (v := (0 : Int32)) hx hb hr hlk hK hP hD hS d_L_isBusy_23 rfl ?_
      exact ⟨by rw [cbusy_f (of_decide_eq_false h6) (of_decide_eq_false h15)]; rfl, rfl⟩
    · skip
      refine lv_iconst (v := 1) hx hb d_L_isBusy_18 (by decide) ?_
      refine lv_goto (tgt := 23) hx hb d_L_isBusy_19 (by decide) ?_
      refine sw_iret (u := st) (v := (1 : Int32)) hx hb hr hlk hK hP hD hS d_L_isBusy_23 rfl ?_
      exact ⟨by rw [cbusy_t (Or.inr (of_decide_eq_true h15))]; rfl, rfl⟩
set_option maxHeartbeats 4000000 in
set_option maxRecDepth 100000 in
theorem k_L_askForChange (l : Launch) (D : va_G) (cA : ClassId) (aX aF aB aL aP : Nat) (st : St) (sz : Nat) : Ci l y_L_askForChange b_L_askForChange 1 (some .boolean) 3 D cA (CW cA aX aF aB aL aP) st sz [.ref aL] (fun r u => r = b2i (!(pwrite 208 15 (st.1, false)).2) ∧ u = ((pwrite 208 15 (st.1, false)).1, st.2)) := by
  refine Ci.enter (by decide) (Nat.le_of_ble_eq_true rfl) ?_
  intro pr en s0 m0 ar bl me co A ls hx hb hml hr hlk hown hts hK hN hA hP hD hS hl
  have hl : lv_has ls 1 [(0, .ref aL)] := hl
  have hown : s0.vm.findClass R_L = some m0.cls := hown
  refine lv_aload_n hx hb d_L_askForChange_0 rfl (lv_at hl 0 rfl) ?_
  refine lv_bipush (v := 13) hx hb d_L_askForChange_1 (by decide) ?_
  refine lv_iconst (v := 0) hx hb d_L_askForChange_3 (by decide) ?_
  refine lv_bipush (v := 15) hx hb d_L_askForChange_4 (by decide) ?_
  refine sw_callVi (rest := []) 3 2 [.int (nI 13), .int (nI 0), .int (15 : Int32)] hx hb hml hown hts hK hN hA hP hD hS (k_L_writeLog l D cA aX aF aB aL aP st _ 13 0 (15 : Int32) (by omega)) cw_L_19 rfl rfl rfl ⟨Nat.le_of_ble_eq_true rfl, Nat.le_of_ble_eq_true rfl⟩ hl.1 rfl rfl (Nat.le_of_ble_eq_true rfl) d_L_askForChange_6 (fun r6 u6 H locs hq6 hP hD hS => ?_)
  obtain ⟨hr6, hu6⟩ := hq6
  rw [hr6]
  refine sw_iret (u := u6) (v := b2i (!(pwrite (13 * 16 + 0) (15 : Int32) (st.1, false)).2)) hx hb hr hlk hK hP hD hS d_L_askForChange_9 (nb_b2i _) ?_
  exact ⟨rfl, hu6⟩
set_option maxHeartbeats 4000000 in
set_option maxRecDepth 100000 in
theorem k_L_markConfirmed (l : Launch) (D : va_G) (cA : ClassId) (aX aF aB aL aP : Nat) (st : St) (sz : Nat) : Ci l y_L_markConfirmed b_L_markConfirmed 1 (some .boolean) 3 D cA (CW cA aX aF aB aL aP) st sz [.ref aL] (fun r u => r = b2i (!(pwrite 210 0 (st.1, false)).2) ∧ u = ((pwrite 210 0 (st.1, false)).1, st.2)) := by
  refine Ci.enter (by decide) (Nat.le_of_ble_eq_true rfl) ?_
  intro pr en s0 m0 ar bl me co A ls hx hb hml hr hlk hown hts hK hN hA hP hD hS hl
  have hl : lv_has ls 1 [(0, .ref aL)] := hl
  have hown : s0.vm.findClass R_L = some m0.cls := hown
  refine lv_aload_n hx hb d_L_markConfirmed_0 rfl (lv_at hl 0 rfl) ?_
  refine lv_bipush (v := 13) hx hb d_L_markConfirmed_1 (by decide) ?_
  refine lv_iconst (v := 2) hx hb d_L_markConfirmed_3 (by decide) ?_
  refine lv_iconst (v := 0) hx hb d_L_markConfirmed_4 (by decide) ?_
  refine sw_callVi (rest := []) 3 2 [.int (nI 13), .int (nI 2), .int (0 : Int32)] hx hb hml hown hts hK hN hA hP hD hS (k_L_writeLog l D cA aX aF aB aL aP st _ 13 2 (0 : Int32) (by omega)) cw_L_19 rfl rfl rfl ⟨Nat.le_of_ble_eq_true rfl, Nat.le_of_ble_eq_true rfl⟩ hl.1 rfl rfl (Nat.le_of_ble_eq_true rfl) d_L_markConfirmed_5 (fun r5 u5 H locs hq5 hP hD hS => ?_)
  obtain ⟨hr5, hu5⟩ := hq5
  rw [hr5]
  refine sw_iret (u := u5) (v := b2i (!(pwrite (13 * 16 + 2) (0 : Int32) (st.1, false)).2)) hx hb hr hlk hK hP hD hS d_L_markConfirmed_8 (nb_b2i _) ?_
  exact ⟨rfl, hu5⟩
set_option maxHeartbeats 4000000 in
set_option maxRecDepth 100000 in
theorem k_L_awaitsConfirmation (l : Launch) (D : va_G) (cA : ClassId) (aX aF aB aL aP : Nat) (st : St) (sz : Nat) : Ci l y_L_awaitsConfirmation b_L_awaitsConfirmation 1 (some .boolean) 3 D cA (CW cA aX aF aB aL aP) st sz [.ref aL] (fun r u => r = b2i (cawait st.1.1) ∧ u = st) := by
  refine Ci.enter (by decide) (Nat.le_of_ble_eq_true rfl) ?_
  intro pr en s0 m0 ar bl me co A ls hx hb hml hr hlk hown hts hK hN hA hP hD hS hl
  have hl : lv_has ls 1 [(0, .ref aL)] := hl
  have hown : s0.vm.findClass R_L = some m0.cls := hown
  refine lv_aload_n hx hb d_L_awaitsConfirmation_0 rfl (lv_at hl 0 rfl) ?_
  refine lv_iconst (v := 1) hx hb d_L_awaitsConfirmation_1 (by decide) ?_
  refine sw_callVi (rest := []) 3 2 [.int (nI 1)] hx hb hml hown hts hK hN hA hP hD hS (k_L_isSo l D cA aX aF aB aL aP st _ 1 (by omega)) cw_L_23 rfl rfl rfl ⟨Nat.le_of_ble_eq_true rfl, Nat.le_of_ble_eq_true rfl⟩ hl.1 rfl rfl (Nat.le_of_ble_eq_true rfl) d_L_awaitsConfirmation_2 (fun r2 u2 H locs hq2 hP hD hS => ?_)
  obtain ⟨hr2, hq2⟩ := hq2
  rw [hr2]
  rw [hq2] at hP hD
  refine sw_bz_eq (tgt := 20) hx hb d_L_awaitsConfirmation_5 (by decide) (fun h5 => ?_) (fun h5 => ?_)
  · skip
    refine lv_iconst (v := 0) hx hb d_L_awaitsConfirmation_20 (by decide) ?_
    refine sw_iret (u := st) (v := (0 : Int32)) hx hb hr hlk hK hP hD hS d_L_awaitsConfirmation_21 rfl ?_
    exact ⟨by rw [cawait_f (fun q => of_decide_eq_false h5 q.1)]; rfl, rfl⟩
  · skip
    refine lv_aload_n hx hb d_L_awaitsConfirmation_8 rfl (lv_at hl 0 rfl) ?_
    refine lv_iconst (v := 2) hx hb d_L_awaitsConfirmation_9 (by decide) ?_
    refine sw_callVi (rest := []) 3 2 [.int (nI 2)] hx hb hml hown hts hK hN hA hP hD hS (k_L_isSo l D cA aX aF aB aL aP st _ 2 (by omega)) cw_L_23 rfl rfl rfl ⟨Nat.le_of_ble_eq_true rfl, Nat.le_of_ble_eq_true rfl⟩ hl.1 rfl rfl (Nat.le_of_ble_eq_true rfl) d_L_awaitsConfirmation_10 (fun r10 u10 H locs hq10 hP hD hS => ?_)
    obtain ⟨hr10, hq10⟩ := hq10
    rw [hr10]
    rw [hq10] at hP hD
    refine sw_bz_ne (tgt := 20) hx hb d_L_awaitsConfirmation_13 (by decide) (fun h13 => ?_) (fun h13 => ?_)
    · skip
      refine lv_iconst (v := 0) hx hb d_L_awaitsConfirmation_20 (by decide) ?_
      refine sw_iret (u := st) (v := (0 : Int32)) hx hb hr hlk hK hP hD hS d_L_awaitsConfirmation_21 rfl ?_
      exact ⟨by rw [cawait_f (fun q => q.2 (of_decide_eq_true h13))]; rfl, rfl⟩
    · skip
      refine lv_iconst (v := 1) hx hb d_L_awaitsConfirmation_16 (by decide) ?_
      refine lv_goto (tgt := 21) hx hb d_L_awaitsConfirmation_17 (by decide) ?_
      refine sw_iret (u := st) (v := (1 : Int32)) hx hb hr hlk hK hP hD hS d_L_awaitsConfirmation_21 rfl ?_
      exact ⟨by rw [cawait_t (of_decide_eq_true h5) (of_decide_eq_false h13)]; rfl, rfl⟩
set_option maxHeartbeats 4000000 in
set_option maxRecDepth 100000 in
theorem k_L_changeBack (l : Launch) (D : va_G) (cA : ClassId) (aX aF aB aL aP : Nat) (st : St) (sz : Nat) : Ci l y_L_changeBack b_L_changeBack 1 (some .boolean) 5 D cA (CW cA aX aF aB aL aP) st sz [.ref aL] (fun r u => r = b2i (!(pback (st.1, false)).2) ∧ u = ((pback (st.1, false)).1, st.2)) := by
  refine Ci.enter (by decide) (Nat.le_of_ble_eq_true rfl) ?_
  intro pr en s0 m0 ar bl me co A ls hx hb hml hr hlk hown hts hK hN hA hP hD hS hl
  have hl : lv_has ls 1 [(0, .ref aL)] := hl
  have hown : s0.vm.findClass R_L = some m0.cls := hown
  refine lv_aload_n hx hb d_L_changeBack_0 rfl (lv_at hl 0 rfl) ?_
  refine lv_bipush (v := 14) hx hb d_L_changeBack_1 (by decide) ?_
  refine sw_callVi (rest := []) 3 2 [.int (nI 14)] hx hb hml hown hts hK hN hA hP hD hS (k_L_change l D cA aX aF aB aL aP st _ 14 (by omega)) cw_L_49 rfl rfl rfl ⟨Nat.le_of_ble_eq_true rfl, Nat.le_of_ble_eq_true rfl⟩ hl.1 rfl rfl (Nat.le_of_ble_eq_true rfl) d_L_changeBack_3 (fun r3 u3 H locs hq3 hP hD hS => ?_)
  obtain ⟨hr3, hu3⟩ := hq3
  rw [hr3]
  refine sw_bz_eq (tgt := 37) hx hb d_L_changeBack_6 (by decide) (fun h6 => ?_) (fun h6 => ?_)
  · skip
    refine lv_iconst (v := 0) hx hb d_L_changeBack_37 (by decide) ?_
    refine sw_iret (u := u3) (v := (0 : Int32)) hx hb hr hlk hK hP hD hS d_L_changeBack_38 rfl ?_
    have hw := mz_no h6
    have hz : pback (st.1, false) = pchange 14 (st.1, false) := by unfold pback; rw [perase_went hw, perase_went hw]
    rw [hz, hw]
    exact ⟨rfl, hu3⟩
  · skip
    refine lv_aload_n hx hb d_L_changeBack_9 rfl (lv_at hl 0 rfl) ?_
    refine va_get (D := D) (ci := 2) (v := .ref aF) (C := R_L) (T := T_L) (N := 1) hx hb hts in_L hown hK hP 3 rfl rfl 0 (by decide) (hts _ wm_44) (fun _ h9 => h9) rfl d_L_changeBack_10 ?_
    refine lv_bipush (v := 13) hx hb d_L_changeBack_13 (by decide) ?_
    refine sw_callVi (rest := []) 1 1 [.int (nI 13)] hx hb hml hown hts hK hN hA hP hD hS (k_F_erasePage l D cA aX aF aB aL aP u3 _ 13 (by omega)) cw_L_33 rfl rfl rfl ⟨Nat.le_of_ble_eq_true rfl, Nat.le_of_ble_eq_true rfl⟩ hl.1 rfl rfl (Nat.le_of_ble_eq_true rfl) d_L_changeBack_15 (fun r15 u15 H locs hq15 hP hD hS => ?_)
    obtain ⟨hr15, hu15⟩ := hq15
    rw [hr15]
    refine sw_bz_eq (tgt := 37) hx hb d_L_changeBack_18 (by decide) (fun h18 => ?_) (fun h18 => ?_)
    · skip
      refine lv_iconst (v := 0) hx hb d_L_changeBack_37 (by decide) ?_
      refine sw_iret (u := u15) (v := (0 : Int32)) hx hb hr hlk hK hP hD hS d_L_changeBack_38 rfl ?_
      have e1 : (u3.1, false) = pchange 14 (st.1, false) := by rw [hu3]; exact mz_eq (mz_ok h6)
      have hw := mz_no h18
      have hz : pback (st.1, false) = perase 13 (u3.1, false) := by unfold pback; rw [← e1, perase_went hw]
      rw [hz, hw, hu15, show u3.2 = st.2 by rw [hu3]]
      exact ⟨rfl, rfl⟩
    · skip
      refine lv_aload_n hx hb d_L_changeBack_21 rfl (lv_at hl 0 rfl) ?_
      refine va_get (D := D) (ci := 2) (v := .ref aF) (C := R_L) (T := T_L) (N := 1) hx hb hts in_L hown hK hP 3 rfl rfl 0 (by decide) (hts _ wm_44) (fun _ h9 => h9) rfl d_L_changeBack_22 ?_
      refine lv_bipush (v := 14) hx hb d_L_changeBack_25 (by decide) ?_
      refine sw_callVi (rest := []) 1 1 [.int (nI 14)] hx hb hml hown hts hK hN hA hP hD hS (k_F_erasePage l D cA aX aF aB aL aP u15 _ 14 (by omega)) cw_L_33 rfl rfl rfl ⟨Nat.le_of_ble_eq_true rfl, Nat.le_of_ble_eq_true rfl⟩ hl.1 rfl rfl (Nat.le_of_ble_eq_true rfl) d_L_changeBack_27 (fun r27 u27 H locs hq27 hP hD hS => ?_)
      obtain ⟨hr27, hu27⟩ := hq27
      rw [hr27]
      refine sw_bz_eq (tgt := 37) hx hb d_L_changeBack_30 (by decide) (fun h30 => ?_) (fun h30 => ?_)
      · skip
        refine lv_iconst (v := 0) hx hb d_L_changeBack_37 (by decide) ?_
        refine sw_iret (u := u27) (v := (0 : Int32)) hx hb hr hlk hK hP hD hS d_L_changeBack_38 rfl ?_
        have e1 : (u3.1, false) = pchange 14 (st.1, false) := by rw [hu3]; exact mz_eq (mz_ok h6)
        have e2 : (u15.1, false) = perase 13 (u3.1, false) := by rw [hu15]; exact mz_eq (mz_ok h18)
        have hz : pback (st.1, false) = perase 14 (u15.1, false) := by unfold pback; rw [← e1, ← e2]
        rw [hz, mz_no h30, hu27, show u15.2 = st.2 by rw [hu15, hu3]]
        exact ⟨rfl, rfl⟩
      · skip
        refine lv_iconst (v := 1) hx hb d_L_changeBack_33 (by decide) ?_
        refine lv_goto (tgt := 38) hx hb d_L_changeBack_34 (by decide) ?_
        refine sw_iret (u := u27) (v := (1 : Int32)) hx hb hr hlk hK hP hD hS d_L_changeBack_38 rfl ?_
        have e1 : (u3.1, false) = pchange 14 (st.1, false) := by rw [hu3]; exact mz_eq (mz_ok h6)
        have e2 : (u15.1, false) = perase 13 (u3.1, false) := by rw [hu15]; exact mz_eq (mz_ok h18)
        have hz : pback (st.1, false) = perase 14 (u15.1, false) := by unfold pback; rw [← e1, ← e2]
        rw [hz, mz_ok h30, hu27, hu15, hu3]
        exact ⟨rfl, rfl⟩
set_option maxHeartbeats 4000000 in
set_option maxRecDepth 100000 in
theorem k_L_tryNext (l : Launch) (D : va_G) (cA : ClassId) (aX aF aB aL aP : Nat) (st : St) (sz : Nat) : Ci l y_L_tryNext b_L_tryNext 1 (some .boolean) 5 D cA (CW cA aX aF aB aL aP) st sz [.ref aL] (fun r u => r = b2i (!(ptry (st.1, false)).2) ∧ u = ((ptry (st.1, false)).1, st.2)) := by
  refine Ci.enter (by decide) (Nat.le_of_ble_eq_true rfl) ?_
  intro pr en s0 m0 ar bl me co A ls hx hb hml hr hlk hown hts hK hN hA hP hD hS hl
  have hl : lv_has ls 1 [(0, .ref aL)] := hl
  have hown : s0.vm.findClass R_L = some m0.cls := hown
  have hcn := pcnt_le st.1.1 13 18 0 0
  refine lv_aload_n hx hb d_L_tryNext_0 rfl (lv_at hl 0 rfl) ?_
  refine lv_bipush (v := 13) hx hb d_L_tryNext_1 (by decide) ?_
  refine sw_callVi (rest := []) 3 2 [.int (nI 13)] hx hb hml hown hts hK hN hA hP hD hS (k_L_stepsDone l D cA aX aF aB aL aP st _ 13 (by omega)) cw_L_42 rfl rfl rfl ⟨Nat.le_of_ble_eq_true rfl, Nat.le_of_ble_eq_true rfl⟩ hl.1 rfl rfl (Nat.le_of_ble_eq_true rfl) d_L_tryNext_3 (fun r3 u3 H locs hq3 hP hD hS => ?_)
  obtain ⟨hr3, hq3⟩ := hq3
  rw [hr3]
  rw [hq3] at hP hD
  refine sw_nz_ne (a := pcnt st.1.1 13 18 0 0) (tgt := 31) hx hb (by omega) d_L_tryNext_6 (by decide) (fun h6 => ?_) (fun h6 => ?_)
  · skip
    refine lv_aload_n hx hb d_L_tryNext_31 rfl (lv_at hl 0 rfl) ?_
    refine lv_bipush (v := 13) hx hb d_L_tryNext_32 (by decide) ?_
    refine sw_callVi (rest := []) 3 2 [.int (nI 13)] hx hb hml hown hts hK hN hA hP hD hS (k_L_change l D cA aX aF aB aL aP st _ 13 (by omega)) cw_L_49 rfl rfl rfl ⟨Nat.le_of_ble_eq_true rfl, Nat.le_of_ble_eq_true rfl⟩ hl.1 rfl rfl (Nat.le_of_ble_eq_true rfl) d_L_tryNext_34 (fun r34 u34 H locs hq34 hP hD hS => ?_)
    obtain ⟨hr34, hu34⟩ := hq34
    rw [hr34]
    refine sw_bz_eq (tgt := 55) hx hb d_L_tryNext_37 (by decide) (fun h37 => ?_) (fun h37 => ?_)
    · skip
      refine lv_iconst (v := 0) hx hb d_L_tryNext_55 (by decide) ?_
      refine sw_iret (u := u34) (v := (0 : Int32)) hx hb hr hlk hK hP hD hS d_L_tryNext_56 rfl ?_
      have hw := mz_no h37
      have hz : ptry (st.1, false) = pchange 13 (st.1, false) := by rw [show ptry (st.1, false) = pwrite 209 0 (pchange 13 (st.1, false)) from if_neg (fun q => by first | exact h6 q.1 | exact h18 q.2), pwrite_went hw]
      rw [hz, hw]
      exact ⟨rfl, hu34⟩
    · skip
      refine lv_aload_n hx hb d_L_tryNext_40 rfl (lv_at hl 0 rfl) ?_
      refine lv_bipush (v := 13) hx hb d_L_tryNext_41 (by decide) ?_
      refine lv_iconst (v := 1) hx hb d_L_tryNext_43 (by decide) ?_
      refine lv_iconst (v := 0) hx hb d_L_tryNext_44 (by decide) ?_
      refine sw_callVi (rest := []) 3 2 [.int (nI 13), .int (nI 1), .int (0 : Int32)] hx hb hml hown hts hK hN hA hP hD hS (k_L_writeLog l D cA aX aF aB aL aP u34 _ 13 1 (0 : Int32) (by omega)) cw_L_19 rfl rfl rfl ⟨Nat.le_of_ble_eq_true rfl, Nat.le_of_ble_eq_true rfl⟩ hl.1 rfl rfl (Nat.le_of_ble_eq_true rfl) d_L_tryNext_45 (fun r45 u45 H locs hq45 hP hD hS => ?_)
      obtain ⟨hr45, hu45⟩ := hq45
      rw [hr45]
      refine sw_bz_eq (tgt := 55) hx hb d_L_tryNext_48 (by decide) (fun h48 => ?_) (fun h48 => ?_)
      · skip
        refine lv_iconst (v := 0) hx hb d_L_tryNext_55 (by decide) ?_
        refine sw_iret (u := u45) (v := (0 : Int32)) hx hb hr hlk hK hP hD hS d_L_tryNext_56 rfl ?_
        have hz : ptry (st.1, false) = pwrite 209 0 (pchange 13 (st.1, false)) := if_neg (fun q => by first | exact h6 q.1 | exact h18 q.2)
        have e1 : (u34.1, false) = pchange 13 (st.1, false) := by rw [hu34]; exact mz_eq (mz_ok h37)
        rw [hz, ← e1, mz_no h48, hu45, show u34.2 = st.2 by rw [hu34]]
        exact ⟨rfl, rfl⟩
      · skip
        refine lv_iconst (v := 1) hx hb d_L_tryNext_51 (by decide) ?_
        refine lv_goto (tgt := 56) hx hb d_L_tryNext_52 (by decide) ?_
        refine sw_iret (u := u45) (v := (1 : Int32)) hx hb hr hlk hK hP hD hS d_L_tryNext_56 rfl ?_
        have hz : ptry (st.1, false) = pwrite 209 0 (pchange 13 (st.1, false)) := if_neg (fun q => by first | exact h6 q.1 | exact h18 q.2)
        have e1 : (u34.1, false) = pchange 13 (st.1, false) := by rw [hu34]; exact mz_eq (mz_ok h37)
        rw [hz, ← e1, mz_ok h48, hu45, show u34.2 = st.2 by rw [hu34]]
        exact ⟨rfl, rfl⟩
  · skip
    refine lv_aload_n hx hb d_L_tryNext_9 rfl (lv_at hl 0 rfl) ?_
    refine va_get (D := D) (ci := 2) (v := .ref aF) (C := R_L) (T := T_L) (N := 1) hx hb hts in_L hown hK hP 3 rfl rfl 0 (by decide) (hts _ wm_44) (fun _ h9 => h9) rfl d_L_tryNext_10 ?_
    refine lv_bipush (v := 96) hx hb d_L_tryNext_13 (by decide) ?_
    refine sw_callVi (rest := []) 1 1 [.int (nI 96)] hx hb hml hown hts hK hN hA hP hD hS (k_F_validVersion l D cA aX aF aB aL aP st _ 96 (by omega)) cw_L_46 rfl rfl rfl ⟨Nat.le_of_ble_eq_true rfl, Nat.le_of_ble_eq_true rfl⟩ hl.1 rfl rfl (Nat.le_of_ble_eq_true rfl) d_L_tryNext_15 (fun r15 u15 H locs hq15 hP hD hS => ?_)
    obtain ⟨hr15, hq15⟩ := hq15
    rw [hr15]
    rw [hq15] at hP hD
    refine lv_if_ne (tgt := 31) hx hb d_L_tryNext_18 (by decide) (fun h18 => ?_) (fun h18 => ?_)
    · skip
      refine lv_aload_n hx hb d_L_tryNext_31 rfl (lv_at hl 0 rfl) ?_
      refine lv_bipush (v := 13) hx hb d_L_tryNext_32 (by decide) ?_
      refine sw_callVi (rest := []) 3 2 [.int (nI 13)] hx hb hml hown hts hK hN hA hP hD hS (k_L_change l D cA aX aF aB aL aP st _ 13 (by omega)) cw_L_49 rfl rfl rfl ⟨Nat.le_of_ble_eq_true rfl, Nat.le_of_ble_eq_true rfl⟩ hl.1 rfl rfl (Nat.le_of_ble_eq_true rfl) d_L_tryNext_34 (fun r34 u34 H locs hq34 hP hD hS => ?_)
      obtain ⟨hr34, hu34⟩ := hq34
      rw [hr34]
      refine sw_bz_eq (tgt := 55) hx hb d_L_tryNext_37 (by decide) (fun h37 => ?_) (fun h37 => ?_)
      · skip
        refine lv_iconst (v := 0) hx hb d_L_tryNext_55 (by decide) ?_
        refine sw_iret (u := u34) (v := (0 : Int32)) hx hb hr hlk hK hP hD hS d_L_tryNext_56 rfl ?_
        have hw := mz_no h37
        have hz : ptry (st.1, false) = pchange 13 (st.1, false) := by rw [show ptry (st.1, false) = pwrite 209 0 (pchange 13 (st.1, false)) from if_neg (fun q => by first | exact h6 q.1 | exact h18 q.2), pwrite_went hw]
        rw [hz, hw]
        exact ⟨rfl, hu34⟩
      · skip
        refine lv_aload_n hx hb d_L_tryNext_40 rfl (lv_at hl 0 rfl) ?_
        refine lv_bipush (v := 13) hx hb d_L_tryNext_41 (by decide) ?_
        refine lv_iconst (v := 1) hx hb d_L_tryNext_43 (by decide) ?_
        refine lv_iconst (v := 0) hx hb d_L_tryNext_44 (by decide) ?_
        refine sw_callVi (rest := []) 3 2 [.int (nI 13), .int (nI 1), .int (0 : Int32)] hx hb hml hown hts hK hN hA hP hD hS (k_L_writeLog l D cA aX aF aB aL aP u34 _ 13 1 (0 : Int32) (by omega)) cw_L_19 rfl rfl rfl ⟨Nat.le_of_ble_eq_true rfl, Nat.le_of_ble_eq_true rfl⟩ hl.1 rfl rfl (Nat.le_of_ble_eq_true rfl) d_L_tryNext_45 (fun r45 u45 H locs hq45 hP hD hS => ?_)
        obtain ⟨hr45, hu45⟩ := hq45
        rw [hr45]
        refine sw_bz_eq (tgt := 55) hx hb d_L_tryNext_48 (by decide) (fun h48 => ?_) (fun h48 => ?_)
        · skip
          refine lv_iconst (v := 0) hx hb d_L_tryNext_55 (by decide) ?_
          refine sw_iret (u := u45) (v := (0 : Int32)) hx hb hr hlk hK hP hD hS d_L_tryNext_56 rfl ?_
          have hz : ptry (st.1, false) = pwrite 209 0 (pchange 13 (st.1, false)) := if_neg (fun q => by first | exact h6 q.1 | exact h18 q.2)
          have e1 : (u34.1, false) = pchange 13 (st.1, false) := by rw [hu34]; exact mz_eq (mz_ok h37)
          rw [hz, ← e1, mz_no h48, hu45, show u34.2 = st.2 by rw [hu34]]
          exact ⟨rfl, rfl⟩
        · skip
          refine lv_iconst (v := 1) hx hb d_L_tryNext_51 (by decide) ?_
          refine lv_goto (tgt := 56) hx hb d_L_tryNext_52 (by decide) ?_
          refine sw_iret (u := u45) (v := (1 : Int32)) hx hb hr hlk hK hP hD hS d_L_tryNext_56 rfl ?_
          have hz : ptry (st.1, false) = pwrite 209 0 (pchange 13 (st.1, false)) := if_neg (fun q => by first | exact h6 q.1 | exact h18 q.2)
          have e1 : (u34.1, false) = pchange 13 (st.1, false) := by rw [hu34]; exact mz_eq (mz_ok h37)
          rw [hz, ← e1, mz_ok h48, hu45, show u34.2 = st.2 by rw [hu34]]
          exact ⟨rfl, rfl⟩
    · skip
      refine lv_aload_n hx hb d_L_tryNext_21 rfl (lv_at hl 0 rfl) ?_
      refine va_get (D := D) (ci := 2) (v := .ref aF) (C := R_L) (T := T_L) (N := 1) hx hb hts in_L hown hK hP 3 rfl rfl 0 (by decide) (hts _ wm_44) (fun _ h9 => h9) rfl d_L_tryNext_22 ?_
      refine lv_bipush (v := 13) hx hb d_L_tryNext_25 (by decide) ?_
      refine sw_callVi (rest := []) 1 1 [.int (nI 13)] hx hb hml hown hts hK hN hA hP hD hS (k_F_erasePage l D cA aX aF aB aL aP st _ 13 (by omega)) cw_L_33 rfl rfl rfl ⟨Nat.le_of_ble_eq_true rfl, Nat.le_of_ble_eq_true rfl⟩ hl.1 rfl rfl (Nat.le_of_ble_eq_true rfl) d_L_tryNext_27 (fun r27 u27 H locs hq27 hP hD hS => ?_)
      obtain ⟨hr27, hu27⟩ := hq27
      rw [hr27]
      refine sw_iret (u := u27) (v := b2i (!(perase 13 (st.1, false)).2)) hx hb hr hlk hK hP hD hS d_L_tryNext_30 (nb_b2i _) ?_
      have hz : ptry (st.1, false) = perase 13 (st.1, false) := if_pos ⟨h6, h18⟩
      rw [hz]
      exact ⟨rfl, hu27⟩
set_option maxHeartbeats 4000000 in
set_option maxRecDepth 100000 in
theorem k_L_markStarted (l : Launch) (D : va_G) (cA : ClassId) (aX aF aB aL aP : Nat) (st : St) (sz : Nat) : Ci l y_L_markStarted b_L_markStarted 1 (some .boolean) 3 D cA (CW cA aX aF aB aL aP) st sz [.ref aL] (fun r u => r = b2i (!(cmark (st.1, false)).2) ∧ u = ((cmark (st.1, false)).1, st.2)) := by
  refine Ci.enter (by decide) (Nat.le_of_ble_eq_true rfl) ?_
  intro pr en s0 m0 ar bl me co A ls hx hb hml hr hlk hown hts hK hN hA hP hD hS hl
  have hl : lv_has ls 1 [(0, .ref aL)] := hl
  have hown : s0.vm.findClass R_L = some m0.cls := hown
  refine lv_aload_n hx hb d_L_markStarted_0 rfl (lv_at hl 0 rfl) ?_
  refine lv_bipush (v := 13) hx hb d_L_markStarted_1 (by decide) ?_
  refine sw_callVi (rest := []) 3 2 [.int (nI 13)] hx hb hml hown hts hK hN hA hP hD hS (k_L_hasRequest l D cA aX aF aB aL aP st _ 13 (by omega)) cw_L_15 rfl rfl rfl ⟨Nat.le_of_ble_eq_true rfl, Nat.le_of_ble_eq_true rfl⟩ hl.1 rfl rfl (Nat.le_of_ble_eq_true rfl) d_L_markStarted_3 (fun r3 u3 H locs hq3 hP hD hS => ?_)
  obtain ⟨hr3, hq3⟩ := hq3
  rw [hr3]
  rw [hq3] at hP hD
  refine sw_bz_eq (tgt := 26) hx hb d_L_markStarted_6 (by decide) (fun h6 => ?_) (fun h6 => ?_)
  · skip
    refine lv_iconst (v := 1) hx hb d_L_markStarted_26 (by decide) ?_
    refine sw_iret (u := st) (v := (1 : Int32)) hx hb hr hlk hK hP hD hS d_L_markStarted_27 rfl ?_
    have hz : cmark (st.1, false) = (st.1, false) := if_neg (fun q => of_decide_eq_false h6 q.1)
    rw [hz]
    exact ⟨rfl, rfl⟩
  · skip
    refine lv_aload_n hx hb d_L_markStarted_9 rfl (lv_at hl 0 rfl) ?_
    refine lv_iconst (v := 1) hx hb d_L_markStarted_10 (by decide) ?_
    refine sw_callVi (rest := []) 3 2 [.int (nI 1)] hx hb hml hown hts hK hN hA hP hD hS (k_L_isSo l D cA aX aF aB aL aP st _ 1 (by omega)) cw_L_23 rfl rfl rfl ⟨Nat.le_of_ble_eq_true rfl, Nat.le_of_ble_eq_true rfl⟩ hl.1 rfl rfl (Nat.le_of_ble_eq_true rfl) d_L_markStarted_11 (fun r11 u11 H locs hq11 hP hD hS => ?_)
    obtain ⟨hr11, hq11⟩ := hq11
    rw [hr11]
    rw [hq11] at hP hD
    refine sw_bz_eq (tgt := 26) hx hb d_L_markStarted_14 (by decide) (fun h14 => ?_) (fun h14 => ?_)
    · skip
      refine lv_iconst (v := 1) hx hb d_L_markStarted_26 (by decide) ?_
      refine sw_iret (u := st) (v := (1 : Int32)) hx hb hr hlk hK hP hD hS d_L_markStarted_27 rfl ?_
      have hz : cmark (st.1, false) = (st.1, false) := if_neg (fun q => of_decide_eq_false h14 q.2)
      rw [hz]
      exact ⟨rfl, rfl⟩
    · skip
      refine lv_aload_n hx hb d_L_markStarted_17 rfl (lv_at hl 0 rfl) ?_
      refine lv_bipush (v := 13) hx hb d_L_markStarted_18 (by decide) ?_
      refine lv_iconst (v := 3) hx hb d_L_markStarted_20 (by decide) ?_
      refine lv_iconst (v := 0) hx hb d_L_markStarted_21 (by decide) ?_
      refine sw_callVi (rest := []) 3 2 [.int (nI 13), .int (nI 3), .int (0 : Int32)] hx hb hml hown hts hK hN hA hP hD hS (k_L_writeLog l D cA aX aF aB aL aP st _ 13 3 (0 : Int32) (by omega)) cw_L_19 rfl rfl rfl ⟨Nat.le_of_ble_eq_true rfl, Nat.le_of_ble_eq_true rfl⟩ hl.1 rfl rfl (Nat.le_of_ble_eq_true rfl) d_L_markStarted_22 (fun r22 u22 H locs hq22 hP hD hS => ?_)
      obtain ⟨hr22, hu22⟩ := hq22
      rw [hr22]
      refine sw_iret (u := u22) (v := b2i (!(pwrite (13 * 16 + 3) (0 : Int32) (st.1, false)).2)) hx hb hr hlk hK hP hD hS d_L_markStarted_25 (nb_b2i _) ?_
      have hz : cmark (st.1, false) = pwrite 211 0 (st.1, false) := if_pos ⟨of_decide_eq_true h6, of_decide_eq_true h14⟩
      rw [hz]
      exact ⟨rfl, hu22⟩
set_option maxHeartbeats 4000000 in
set_option maxRecDepth 100000 in
theorem k_L_followLogs (l : Launch) (D : va_G) (cA : ClassId) (aX aF aB aL aP : Nat) (st : St) (sz : Nat) : Ci l y_L_followLogs b_L_followLogs 1 (some .boolean) 6 D cA (CW cA aX aF aB aL aP) st sz [.ref aL] (fun r u => r = b2i (!(cfollow (st.1, false)).2) ∧ u = ((cfollow (st.1, false)).1, st.2)) := by
  refine Ci.enter (by decide) (Nat.le_of_ble_eq_true rfl) ?_
  intro pr en s0 m0 ar bl me co A ls hx hb hml hr hlk hown hts hK hN hA hP hD hS hl
  have hl : lv_has ls 1 [(0, .ref aL)] := hl
  have hown : s0.vm.findClass R_L = some m0.cls := hown
  refine lv_aload_n hx hb d_L_followLogs_0 rfl (lv_at hl 0 rfl) ?_
  refine lv_bipush (v := 14) hx hb d_L_followLogs_1 (by decide) ?_
  refine sw_callVi (rest := []) 3 2 [.int (nI 14)] hx hb hml hown hts hK hN hA hP hD hS (k_L_hasRequest l D cA aX aF aB aL aP st _ 14 (by omega)) cw_L_15 rfl rfl rfl ⟨Nat.le_of_ble_eq_true rfl, Nat.le_of_ble_eq_true rfl⟩ hl.1 rfl rfl (Nat.le_of_ble_eq_true rfl) d_L_followLogs_3 (fun r3 u3 H locs hq3 hP hD hS => ?_)
  obtain ⟨hr3, hq3⟩ := hq3
  rw [hr3]
  rw [hq3] at hP hD
  refine sw_bz_eq (tgt := 14) hx hb d_L_followLogs_6 (by decide) (fun h6 => ?_) (fun h6 => ?_)
  · skip
    refine lv_aload_n hx hb d_L_followLogs_14 rfl (lv_at hl 0 rfl) ?_
    refine lv_bipush (v := 13) hx hb d_L_followLogs_15 (by decide) ?_
    refine sw_callVi (rest := []) 3 2 [.int (nI 13)] hx hb hml hown hts hK hN hA hP hD hS (k_L_hasRequest l D cA aX aF aB aL aP st _ 13 (by omega)) cw_L_15 rfl rfl rfl ⟨Nat.le_of_ble_eq_true rfl, Nat.le_of_ble_eq_true rfl⟩ hl.1 rfl rfl (Nat.le_of_ble_eq_true rfl) d_L_followLogs_17 (fun r17 u17 H locs hq17 hP hD hS => ?_)
    obtain ⟨hr17, hq17⟩ := hq17
    rw [hr17]
    rw [hq17] at hP hD
    refine sw_bz_ne (tgt := 25) hx hb d_L_followLogs_20 (by decide) (fun h20 => ?_) (fun h20 => ?_)
    · skip
      refine lv_aload_n hx hb d_L_followLogs_25 rfl (lv_at hl 0 rfl) ?_
      refine lv_iconst (v := 1) hx hb d_L_followLogs_26 (by decide) ?_
      refine sw_callVi (rest := []) 3 2 [.int (nI 1)] hx hb hml hown hts hK hN hA hP hD hS (k_L_isSo l D cA aX aF aB aL aP st _ 1 (by omega)) cw_L_23 rfl rfl rfl ⟨Nat.le_of_ble_eq_true rfl, Nat.le_of_ble_eq_true rfl⟩ hl.1 rfl rfl (Nat.le_of_ble_eq_true rfl) d_L_followLogs_27 (fun r27 u27 H locs hq27 hP hD hS => ?_)
      obtain ⟨hr27, hq27⟩ := hq27
      rw [hr27]
      rw [hq27] at hP hD
      refine sw_bz_ne (tgt := 38) hx hb d_L_followLogs_30 (by decide) (fun h30 => ?_) (fun h30 => ?_)
      · skip
        refine lv_aload_n hx hb d_L_followLogs_38 rfl (lv_at hl 0 rfl) ?_
        refine lv_iconst (v := 2) hx hb d_L_followLogs_39 (by decide) ?_
        refine sw_callVi (rest := []) 3 2 [.int (nI 2)] hx hb hml hown hts hK hN hA hP hD hS (k_L_isSo l D cA aX aF aB aL aP st _ 2 (by omega)) cw_L_23 rfl rfl rfl ⟨Nat.le_of_ble_eq_true rfl, Nat.le_of_ble_eq_true rfl⟩ hl.1 rfl rfl (Nat.le_of_ble_eq_true rfl) d_L_followLogs_40 (fun r40 u40 H locs hq40 hP hD hS => ?_)
        obtain ⟨hr40, hq40⟩ := hq40
        rw [hr40]
        rw [hq40] at hP hD
        refine sw_bz_eq (tgt := 56) hx hb d_L_followLogs_43 (by decide) (fun h43 => ?_) (fun h43 => ?_)
        · skip
          refine lv_aload_n hx hb d_L_followLogs_56 rfl (lv_at hl 0 rfl) ?_
          refine lv_iconst (v := 3) hx hb d_L_followLogs_57 (by decide) ?_
          refine sw_callVi (rest := []) 3 2 [.int (nI 3)] hx hb hml hown hts hK hN hA hP hD hS (k_L_isSo l D cA aX aF aB aL aP st _ 3 (by omega)) cw_L_23 rfl rfl rfl ⟨Nat.le_of_ble_eq_true rfl, Nat.le_of_ble_eq_true rfl⟩ hl.1 rfl rfl (Nat.le_of_ble_eq_true rfl) d_L_followLogs_58 (fun r58 u58 H locs hq58 hP hD hS => ?_)
          obtain ⟨hr58, hq58⟩ := hq58
          rw [hr58]
          rw [hq58] at hP hD
          refine sw_bz_eq (tgt := 89) hx hb d_L_followLogs_61 (by decide) (fun h61 => ?_) (fun h61 => ?_)
          · skip
            refine lv_iconst (v := 1) hx hb d_L_followLogs_89 (by decide) ?_
            refine sw_iret (u := st) (v := (1 : Int32)) hx hb hr hlk hK hP hD hS d_L_followLogs_90 rfl ?_
            have hz : cfollow (st.1, false) = (st.1, false) := (if_neg (of_decide_eq_false h6)).trans ((if_neg (not_not_intro (of_decide_eq_true h20))).trans ((if_neg (not_not_intro (of_decide_eq_true h30))).trans ((if_neg (of_decide_eq_false h43)).trans (if_neg (of_decide_eq_false h61)))))
            rw [hz]
            exact ⟨rfl, rfl⟩
          · skip
            refine lv_aload_n hx hb d_L_followLogs_64 rfl (lv_at hl 0 rfl) ?_
            refine lv_bipush (v := 14) hx hb d_L_followLogs_65 (by decide) ?_
            refine lv_iconst (v := 0) hx hb d_L_followLogs_67 (by decide) ?_
            refine lv_bipush (v := 15) hx hb d_L_followLogs_68 (by decide) ?_
            refine sw_callVi (rest := []) 3 2 [.int (nI 14), .int (nI 0), .int (15 : Int32)] hx hb hml hown hts hK hN hA hP hD hS (k_L_writeLog l D cA aX aF aB aL aP st _ 14 0 (15 : Int32) (by omega)) cw_L_19 rfl rfl rfl ⟨Nat.le_of_ble_eq_true rfl, Nat.le_of_ble_eq_true rfl⟩ hl.1 rfl rfl (Nat.le_of_ble_eq_true rfl) d_L_followLogs_70 (fun r70 u70 H locs hq70 hP hD hS => ?_)
            obtain ⟨hr70, hu70⟩ := hq70
            rw [hr70]
            refine sw_bz_eq (tgt := 87) hx hb d_L_followLogs_73 (by decide) (fun h73 => ?_) (fun h73 => ?_)
            · skip
              refine lv_iconst (v := 0) hx hb d_L_followLogs_87 (by decide) ?_
              refine sw_iret (u := u70) (v := (0 : Int32)) hx hb hr hlk hK hP hD hS d_L_followLogs_88 rfl ?_
              have hz : cfollow (st.1, false) = pback (pwrite 224 15 (st.1, false)) := (if_neg (of_decide_eq_false h6)).trans ((if_neg (not_not_intro (of_decide_eq_true h20))).trans ((if_neg (not_not_intro (of_decide_eq_true h30))).trans ((if_neg (of_decide_eq_false h43)).trans (if_pos (of_decide_eq_true h61)))))
              have hw := mz_no h73
              rw [hz, pback_went hw, hw]
              exact ⟨rfl, hu70⟩
            · skip
              refine lv_aload_n hx hb d_L_followLogs_76 rfl (lv_at hl 0 rfl) ?_
              refine sw_callVi (rest := []) 3 2 [] hx hb hml hown hts hK hN hA hP hD hS (k_L_changeBack l D cA aX aF aB aL aP u70 _) cw_L_26 rfl rfl rfl ⟨Nat.le_of_ble_eq_true rfl, Nat.le_of_ble_eq_true rfl⟩ hl.1 rfl rfl (Nat.le_of_ble_eq_true rfl) d_L_followLogs_77 (fun r77 u77 H locs hq77 hP hD hS => ?_)
              obtain ⟨hr77, hu77⟩ := hq77
              rw [hr77]
              refine sw_bz_eq (tgt := 87) hx hb d_L_followLogs_80 (by decide) (fun h80 => ?_) (fun h80 => ?_)
              · skip
                refine lv_iconst (v := 0) hx hb d_L_followLogs_87 (by decide) ?_
                refine sw_iret (u := u77) (v := (0 : Int32)) hx hb hr hlk hK hP hD hS d_L_followLogs_88 rfl ?_
                have hz : cfollow (st.1, false) = pback (pwrite 224 15 (st.1, false)) := (if_neg (of_decide_eq_false h6)).trans ((if_neg (not_not_intro (of_decide_eq_true h20))).trans ((if_neg (not_not_intro (of_decide_eq_true h30))).trans ((if_neg (of_decide_eq_false h43)).trans (if_pos (of_decide_eq_true h61)))))
                have e6 : (u70.1, false) = pwrite 224 15 (st.1, false) := by rw [hu70]; exact mz_eq (mz_ok h73)
                rw [hz, ← e6, mz_no h80, hu77, show u70.2 = st.2 by rw [hu70]]
                exact ⟨rfl, rfl⟩
              · skip
                refine lv_iconst (v := 1) hx hb d_L_followLogs_83 (by decide) ?_
                refine lv_goto (tgt := 88) hx hb d_L_followLogs_84 (by decide) ?_
                refine sw_iret (u := u77) (v := (1 : Int32)) hx hb hr hlk hK hP hD hS d_L_followLogs_88 rfl ?_
                have hz : cfollow (st.1, false) = pback (pwrite 224 15 (st.1, false)) := (if_neg (of_decide_eq_false h6)).trans ((if_neg (not_not_intro (of_decide_eq_true h20))).trans ((if_neg (not_not_intro (of_decide_eq_true h30))).trans ((if_neg (of_decide_eq_false h43)).trans (if_pos (of_decide_eq_true h61)))))
                have e6 : (u70.1, false) = pwrite 224 15 (st.1, false) := by rw [hu70]; exact mz_eq (mz_ok h73)
                rw [hz, ← e6, mz_ok h80, hu77, show u70.2 = st.2 by rw [hu70]]
                exact ⟨rfl, rfl⟩
        · skip
          refine lv_aload_n hx hb d_L_followLogs_46 rfl (lv_at hl 0 rfl) ?_
          refine va_get (D := D) (ci := 2) (v := .ref aF) (C := R_L) (T := T_L) (N := 1) hx hb hts in_L hown hK hP 3 rfl rfl 0 (by decide) (hts _ wm_44) (fun _ h9 => h9) rfl d_L_followLogs_47 ?_
          refine lv_bipush (v := 13) hx hb d_L_followLogs_50 (by decide) ?_
          refine sw_callVi (rest := []) 1 1 [.int (nI 13)] hx hb hml hown hts hK hN hA hP hD hS (k_F_erasePage l D cA aX aF aB aL aP st _ 13 (by omega)) cw_L_33 rfl rfl rfl ⟨Nat.le_of_ble_eq_true rfl, Nat.le_of_ble_eq_true rfl⟩ hl.1 rfl rfl (Nat.le_of_ble_eq_true rfl) d_L_followLogs_52 (fun r52 u52 H locs hq52 hP hD hS => ?_)
          obtain ⟨hr52, hu52⟩ := hq52
          rw [hr52]
          refine sw_iret (u := u52) (v := b2i (!(perase 13 (st.1, false)).2)) hx hb hr hlk hK hP hD hS d_L_followLogs_55 (nb_b2i _) ?_
          have hz : cfollow (st.1, false) = perase 13 (st.1, false) := (if_neg (of_decide_eq_false h6)).trans ((if_neg (not_not_intro (of_decide_eq_true h20))).trans ((if_neg (not_not_intro (of_decide_eq_true h30))).trans (if_pos (of_decide_eq_true h43))))
          rw [hz]
          exact ⟨rfl, hu52⟩
      · skip
        refine lv_aload_n hx hb d_L_followLogs_33 rfl (lv_at hl 0 rfl) ?_
        refine sw_callVi (rest := []) 3 2 [] hx hb hml hown hts hK hN hA hP hD hS (k_L_tryNext l D cA aX aF aB aL aP st _) cw_L_30 rfl rfl rfl ⟨Nat.le_of_ble_eq_true rfl, Nat.le_of_ble_eq_true rfl⟩ hl.1 rfl rfl (Nat.le_of_ble_eq_true rfl) d_L_followLogs_34 (fun r34 u34 H locs hq34 hP hD hS => ?_)
        obtain ⟨hr34, hu34⟩ := hq34
        rw [hr34]
        refine sw_iret (u := u34) (v := b2i (!(ptry (st.1, false)).2)) hx hb hr hlk hK hP hD hS d_L_followLogs_37 (nb_b2i _) ?_
        have hz : cfollow (st.1, false) = ptry (st.1, false) := (if_neg (of_decide_eq_false h6)).trans ((if_neg (not_not_intro (of_decide_eq_true h20))).trans (if_pos (of_decide_eq_false h30)))
        rw [hz]
        exact ⟨rfl, hu34⟩
    · skip
      refine lv_iconst (v := 1) hx hb d_L_followLogs_23 (by decide) ?_
      refine sw_iret (u := st) (v := (1 : Int32)) hx hb hr hlk hK hP hD hS d_L_followLogs_24 rfl ?_
      have hz : cfollow (st.1, false) = (st.1, false) := (if_neg (of_decide_eq_false h6)).trans (if_pos (of_decide_eq_false h20))
      rw [hz]
      exact ⟨rfl, rfl⟩
  · skip
    refine lv_aload_n hx hb d_L_followLogs_9 rfl (lv_at hl 0 rfl) ?_
    refine sw_callVi (rest := []) 3 2 [] hx hb hml hown hts hK hN hA hP hD hS (k_L_changeBack l D cA aX aF aB aL aP st _) cw_L_26 rfl rfl rfl ⟨Nat.le_of_ble_eq_true rfl, Nat.le_of_ble_eq_true rfl⟩ hl.1 rfl rfl (Nat.le_of_ble_eq_true rfl) d_L_followLogs_10 (fun r10 u10 H locs hq10 hP hD hS => ?_)
    obtain ⟨hr10, hu10⟩ := hq10
    rw [hr10]
    refine sw_iret (u := u10) (v := b2i (!(pback (st.1, false)).2)) hx hb hr hlk hK hP hD hS d_L_followLogs_13 (nb_b2i _) ?_
    have hz : cfollow (st.1, false) = pback (st.1, false) := if_pos (of_decide_eq_true h6)
    rw [hz]
    exact ⟨rfl, hu10⟩
