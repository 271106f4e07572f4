/-! 13.model2: by program (wip/whole/src/gen.py) out of the bytecode and the specs. -/
theorem d_M_off_0 : decode b_M_off 0 = .ok (.aload_n 0, 1) := by decide +kernel
theorem d_M_off_1 : decode b_M_off 1 = .ok (.iconst 0, 1) := by decide +kernel
theorem d_M_off_2 : decode b_M_off 2 = .ok (.putfield 17, 3) := by decide +kernel
theorem d_M_off_5 : decode b_M_off 5 = .ok (.aload_n 0, 1) := by decide +kernel
theorem d_M_off_6 : decode b_M_off 6 = .ok (.getfield 34, 3) := by decide +kernel
theorem d_M_off_9 : decode b_M_off 9 = .ok (.istore_n 1, 1) := by decide +kernel
theorem d_M_off_10 : decode b_M_off 10 = .ok (.aload_n 0, 1) := by decide +kernel
theorem d_M_off_11 : decode b_M_off 11 = .ok (.invokevirtual 46, 3) := by decide +kernel
theorem d_M_off_14 : decode b_M_off 14 = .ok (.iload_n 1, 1) := by decide +kernel
theorem d_M_off_15 : decode b_M_off 15 = .ok (.ireturn, 1) := by decide +kernel
theorem d_M_cut_0 : decode b_M_cut 0 = .ok (.aload_n 0, 1) := by decide +kernel
theorem d_M_cut_1 : decode b_M_cut 1 = .ok (.iconst 0, 1) := by decide +kernel
theorem d_M_cut_2 : decode b_M_cut 2 = .ok (.putfield 17, 3) := by decide +kernel
theorem d_M_cut_5 : decode b_M_cut 5 = .ok (.iload_n 1, 1) := by decide +kernel
theorem d_M_cut_6 : decode b_M_cut 6 = .ok (.ifCond .lt 10, 3) := by decide +kernel
theorem d_M_cut_9 : decode b_M_cut 9 = .ok (.iload_n 1, 1) := by decide +kernel
theorem d_M_cut_10 : decode b_M_cut 10 = .ok (.sipush 1000, 3) := by decide +kernel
theorem d_M_cut_13 : decode b_M_cut 13 = .ok (.if_icmp .le 5, 3) := by decide +kernel
theorem d_M_cut_16 : decode b_M_cut 16 = .ok (.iconst 0, 1) := by decide +kernel
theorem d_M_cut_17 : decode b_M_cut 17 = .ok (.ireturn, 1) := by decide +kernel
theorem d_M_cut_18 : decode b_M_cut 18 = .ok (.aload_n 0, 1) := by decide +kernel
theorem d_M_cut_19 : decode b_M_cut 19 = .ok (.iload_n 1, 1) := by decide +kernel
theorem d_M_cut_20 : decode b_M_cut 20 = .ok (.putfield 13, 3) := by decide +kernel
theorem d_M_cut_23 : decode b_M_cut 23 = .ok (.iconst 1, 1) := by decide +kernel
theorem d_M_cut_24 : decode b_M_cut 24 = .ok (.ireturn, 1) := by decide +kernel
theorem d_M_safe_0 : decode b_M_safe 0 = .ok (.aload_n 0, 1) := by decide +kernel
theorem d_M_safe_1 : decode b_M_safe 1 = .ok (.iconst 0, 1) := by decide +kernel
theorem d_M_safe_2 : decode b_M_safe 2 = .ok (.putfield 17, 3) := by decide +kernel
theorem d_M_safe_5 : decode b_M_safe 5 = .ok (.aload_n 0, 1) := by decide +kernel
theorem d_M_safe_6 : decode b_M_safe 6 = .ok (.getfield 13, 3) := by decide +kernel
theorem d_M_safe_9 : decode b_M_safe 9 = .ok (.istore_n 1, 1) := by decide +kernel
theorem d_M_safe_10 : decode b_M_safe 10 = .ok (.aload_n 0, 1) := by decide +kernel
theorem d_M_safe_11 : decode b_M_safe 11 = .ok (.iconst (-1), 1) := by decide +kernel
theorem d_M_safe_12 : decode b_M_safe 12 = .ok (.putfield 13, 3) := by decide +kernel
theorem d_M_safe_15 : decode b_M_safe 15 = .ok (.iload_n 1, 1) := by decide +kernel
theorem d_M_safe_16 : decode b_M_safe 16 = .ok (.ireturn, 1) := by decide +kernel
theorem d_M_request_0 : decode b_M_request 0 = .ok (.aload_n 0, 1) := by decide +kernel
theorem d_M_request_1 : decode b_M_request 1 = .ok (.iconst 0, 1) := by decide +kernel
theorem d_M_request_2 : decode b_M_request 2 = .ok (.putfield 17, 3) := by decide +kernel
theorem d_M_request_5 : decode b_M_request 5 = .ok (.aload_n 0, 1) := by decide +kernel
theorem d_M_request_6 : decode b_M_request 6 = .ok (.getfield 37, 3) := by decide +kernel
theorem d_M_request_9 : decode b_M_request 9 = .ok (.ifCond .eq 23, 3) := by decide +kernel
theorem d_M_request_12 : decode b_M_request 12 = .ok (.aload_n 0, 1) := by decide +kernel
theorem d_M_request_13 : decode b_M_request 13 = .ok (.sipush 208, 3) := by decide +kernel
theorem d_M_request_16 : decode b_M_request 16 = .ok (.invokevirtual 76, 3) := by decide +kernel
theorem d_M_request_19 : decode b_M_request 19 = .ok (.ifCond .ne 13, 3) := by decide +kernel
theorem d_M_request_22 : decode b_M_request 22 = .ok (.aload_n 0, 1) := by decide +kernel
theorem d_M_request_23 : decode b_M_request 23 = .ok (.sipush 224, 3) := by decide +kernel
theorem d_M_request_26 : decode b_M_request 26 = .ok (.invokevirtual 76, 3) := by decide +kernel
theorem d_M_request_29 : decode b_M_request 29 = .ok (.ifCond .eq 5, 3) := by decide +kernel
theorem d_M_request_32 : decode b_M_request 32 = .ok (.iconst (-1), 1) := by decide +kernel
theorem d_M_request_33 : decode b_M_request 33 = .ok (.ireturn, 1) := by decide +kernel
theorem d_M_request_34 : decode b_M_request 34 = .ok (.aload_n 0, 1) := by decide +kernel
theorem d_M_request_35 : decode b_M_request 35 = .ok (.bipush 96, 2) := by decide +kernel
theorem d_M_request_37 : decode b_M_request 37 = .ok (.invokevirtual 92, 3) := by decide +kernel
theorem d_M_request_40 : decode b_M_request 40 = .ok (.ifCond .ne 5, 3) := by decide +kernel
theorem d_M_request_43 : decode b_M_request 43 = .ok (.iconst 0, 1) := by decide +kernel
theorem d_M_request_44 : decode b_M_request 44 = .ok (.ireturn, 1) := by decide +kernel
theorem d_M_request_45 : decode b_M_request 45 = .ok (.aload_n 0, 1) := by decide +kernel
theorem d_M_request_46 : decode b_M_request 46 = .ok (.iconst 0, 1) := by decide +kernel
theorem d_M_request_47 : decode b_M_request 47 = .ok (.putfield 20, 3) := by decide +kernel
theorem d_M_request_50 : decode b_M_request 50 = .ok (.aload_n 0, 1) := by decide +kernel
theorem d_M_request_51 : decode b_M_request 51 = .ok (.sipush 208, 3) := by decide +kernel
theorem d_M_request_54 : decode b_M_request 54 = .ok (.bipush 15, 2) := by decide +kernel
theorem d_M_request_56 : decode b_M_request 56 = .ok (.invokevirtual 69, 3) := by decide +kernel
theorem d_M_request_59 : decode b_M_request 59 = .ok (.aload_n 0, 1) := by decide +kernel
theorem d_M_request_60 : decode b_M_request 60 = .ok (.iconst 1, 1) := by decide +kernel
theorem d_M_request_61 : decode b_M_request 61 = .ok (.invokevirtual 98, 3) := by decide +kernel
theorem d_M_request_64 : decode b_M_request 64 = .ok (.ireturn, 1) := by decide +kernel
theorem d_M_confirm_0 : decode b_M_confirm 0 = .ok (.aload_n 0, 1) := by decide +kernel
theorem d_M_confirm_1 : decode b_M_confirm 1 = .ok (.iconst 0, 1) := by decide +kernel
theorem d_M_confirm_2 : decode b_M_confirm 2 = .ok (.putfield 17, 3) := by decide +kernel
theorem d_M_confirm_5 : decode b_M_confirm 5 = .ok (.aload_n 0, 1) := by decide +kernel
theorem d_M_confirm_6 : decode b_M_confirm 6 = .ok (.getfield 37, 3) := by decide +kernel
theorem d_M_confirm_9 : decode b_M_confirm 9 = .ok (.ifCond .eq 19, 3) := by decide +kernel
theorem d_M_confirm_12 : decode b_M_confirm 12 = .ok (.aload_n 0, 1) := by decide +kernel
theorem d_M_confirm_13 : decode b_M_confirm 13 = .ok (.iconst 1, 1) := by decide +kernel
theorem d_M_confirm_14 : decode b_M_confirm 14 = .ok (.invokevirtual 85, 3) := by decide +kernel
theorem d_M_confirm_17 : decode b_M_confirm 17 = .ok (.ifCond .eq 11, 3) := by decide +kernel
theorem d_M_confirm_20 : decode b_M_confirm 20 = .ok (.aload_n 0, 1) := by decide +kernel
theorem d_M_confirm_21 : decode b_M_confirm 21 = .ok (.iconst 2, 1) := by decide +kernel
theorem d_M_confirm_22 : decode b_M_confirm 22 = .ok (.invokevirtual 85, 3) := by decide +kernel
theorem d_M_confirm_25 : decode b_M_confirm 25 = .ok (.ifCond .eq 5, 3) := by decide +kernel
theorem d_M_confirm_28 : decode b_M_confirm 28 = .ok (.iconst (-1), 1) := by decide +kernel
theorem d_M_confirm_29 : decode b_M_confirm 29 = .ok (.ireturn, 1) := by decide +kernel
theorem d_M_confirm_30 : decode b_M_confirm 30 = .ok (.aload_n 0, 1) := by decide +kernel
theorem d_M_confirm_31 : decode b_M_confirm 31 = .ok (.iconst 0, 1) := by decide +kernel
theorem d_M_confirm_32 : decode b_M_confirm 32 = .ok (.putfield 20, 3) := by decide +kernel
theorem d_M_confirm_35 : decode b_M_confirm 35 = .ok (.aload_n 0, 1) := by decide +kernel
theorem d_M_confirm_36 : decode b_M_confirm 36 = .ok (.sipush 210, 3) := by decide +kernel
theorem d_M_confirm_39 : decode b_M_confirm 39 = .ok (.iconst 0, 1) := by decide +kernel
theorem d_M_confirm_40 : decode b_M_confirm 40 = .ok (.invokevirtual 69, 3) := by decide +kernel
theorem d_M_confirm_43 : decode b_M_confirm 43 = .ok (.aload_n 0, 1) := by decide +kernel
theorem d_M_confirm_44 : decode b_M_confirm 44 = .ok (.iconst 1, 1) := by decide +kernel
theorem d_M_confirm_45 : decode b_M_confirm 45 = .ok (.invokevirtual 98, 3) := by decide +kernel
theorem d_M_confirm_48 : decode b_M_confirm 48 = .ok (.ireturn, 1) := by decide +kernel
theorem d_M_version_0 : decode b_M_version 0 = .ok (.aload_n 0, 1) := by decide +kernel
theorem d_M_version_1 : decode b_M_version 1 = .ok (.iconst 0, 1) := by decide +kernel
theorem d_M_version_2 : decode b_M_version 2 = .ok (.putfield 17, 3) := by decide +kernel
theorem d_M_version_5 : decode b_M_version 5 = .ok (.iload_n 1, 1) := by decide +kernel
theorem d_M_version_6 : decode b_M_version 6 = .ok (.ifCond .ne 11, 3) := by decide +kernel
theorem d_M_version_9 : decode b_M_version 9 = .ok (.aload_n 0, 1) := by decide +kernel
theorem d_M_version_10 : decode b_M_version 10 = .ok (.iconst 0, 1) := by decide +kernel
theorem d_M_version_11 : decode b_M_version 11 = .ok (.invokevirtual 92, 3) := by decide +kernel
theorem d_M_version_14 : decode b_M_version 14 = .ok (.goto 18, 3) := by decide +kernel
theorem d_M_version_17 : decode b_M_version 17 = .ok (.iload_n 1, 1) := by decide +kernel
theorem d_M_version_18 : decode b_M_version 18 = .ok (.iconst 1, 1) := by decide +kernel
theorem d_M_version_19 : decode b_M_version 19 = .ok (.if_icmp .ne 12, 3) := by decide +kernel
theorem d_M_version_22 : decode b_M_version 22 = .ok (.aload_n 0, 1) := by decide +kernel
theorem d_M_version_23 : decode b_M_version 23 = .ok (.bipush 96, 2) := by decide +kernel
theorem d_M_version_25 : decode b_M_version 25 = .ok (.invokevirtual 92, 3) := by decide +kernel
theorem d_M_version_28 : decode b_M_version 28 = .ok (.goto 4, 3) := by decide +kernel
theorem d_M_version_31 : decode b_M_version 31 = .ok (.iconst (-1), 1) := by decide +kernel
theorem d_M_version_32 : decode b_M_version 32 = .ok (.ireturn, 1) := by decide +kernel
theorem d_M_state_0 : decode b_M_state 0 = .ok (.aload_n 0, 1) := by decide +kernel
theorem d_M_state_1 : decode b_M_state 1 = .ok (.iconst 0, 1) := by decide +kernel
theorem d_M_state_2 : decode b_M_state 2 = .ok (.putfield 17, 3) := by decide +kernel
theorem d_M_state_5 : decode b_M_state 5 = .ok (.iload_n 1, 1) := by decide +kernel
theorem d_M_state_6 : decode b_M_state 6 = .ok (.tableswitch 100 0 7 #[46, 59, 64, 69, 74, 82, 90, 95], 46) := by decide +kernel
theorem d_M_state_52 : decode b_M_state 52 = .ok (.aload_n 0, 1) := by decide +kernel
theorem d_M_state_53 : decode b_M_state 53 = .ok (.getfield 34, 3) := by decide +kernel
theorem d_M_state_56 : decode b_M_state 56 = .ok (.ifCond .eq 7, 3) := by decide +kernel
theorem d_M_state_59 : decode b_M_state 59 = .ok (.iconst 1, 1) := by decide +kernel
theorem d_M_state_60 : decode b_M_state 60 = .ok (.goto 4, 3) := by decide +kernel
theorem d_M_state_63 : decode b_M_state 63 = .ok (.iconst 0, 1) := by decide +kernel
theorem d_M_state_64 : decode b_M_state 64 = .ok (.ireturn, 1) := by decide +kernel
theorem d_M_state_65 : decode b_M_state 65 = .ok (.aload_n 0, 1) := by decide +kernel
theorem d_M_state_66 : decode b_M_state 66 = .ok (.getfield 37, 3) := by decide +kernel
theorem d_M_state_69 : decode b_M_state 69 = .ok (.ireturn, 1) := by decide +kernel
theorem d_M_state_70 : decode b_M_state 70 = .ok (.aload_n 0, 1) := by decide +kernel
theorem d_M_state_71 : decode b_M_state 71 = .ok (.getfield 40, 3) := by decide +kernel
theorem d_M_state_74 : decode b_M_state 74 = .ok (.ireturn, 1) := by decide +kernel
theorem d_M_state_75 : decode b_M_state 75 = .ok (.aload_n 0, 1) := by decide +kernel
theorem d_M_state_76 : decode b_M_state 76 = .ok (.getfield 43, 3) := by decide +kernel
theorem d_M_state_79 : decode b_M_state 79 = .ok (.ireturn, 1) := by decide +kernel
theorem d_M_state_80 : decode b_M_state 80 = .ok (.aload_n 0, 1) := by decide +kernel
theorem d_M_state_81 : decode b_M_state 81 = .ok (.sipush 208, 3) := by decide +kernel
theorem d_M_state_84 : decode b_M_state 84 = .ok (.invokevirtual 88, 3) := by decide +kernel
theorem d_M_state_87 : decode b_M_state 87 = .ok (.ireturn, 1) := by decide +kernel
theorem d_M_state_88 : decode b_M_state 88 = .ok (.aload_n 0, 1) := by decide +kernel
theorem d_M_state_89 : decode b_M_state 89 = .ok (.sipush 224, 3) := by decide +kernel
theorem d_M_state_92 : decode b_M_state 92 = .ok (.invokevirtual 88, 3) := by decide +kernel
theorem d_M_state_95 : decode b_M_state 95 = .ok (.ireturn, 1) := by decide +kernel
theorem d_M_state_96 : decode b_M_state 96 = .ok (.aload_n 0, 1) := by decide +kernel
theorem d_M_state_97 : decode b_M_state 97 = .ok (.getfield 24, 3) := by decide +kernel
theorem d_M_state_100 : decode b_M_state 100 = .ok (.ireturn, 1) := by decide +kernel
theorem d_M_state_101 : decode b_M_state 101 = .ok (.aload_n 0, 1) := by decide +kernel
theorem d_M_state_102 : decode b_M_state 102 = .ok (.getfield 31, 3) := by decide +kernel
theorem d_M_state_105 : decode b_M_state 105 = .ok (.ireturn, 1) := by decide +kernel
theorem d_M_state_106 : decode b_M_state 106 = .ok (.iconst (-1), 1) := by decide +kernel
theorem d_M_state_107 : decode b_M_state 107 = .ok (.ireturn, 1) := by decide +kernel
theorem d_M_byteAt_0 : decode b_M_byteAt 0 = .ok (.aload_n 0, 1) := by decide +kernel
theorem d_M_byteAt_1 : decode b_M_byteAt 1 = .ok (.iload_n 1, 1) := by decide +kernel
theorem d_M_byteAt_2 : decode b_M_byteAt 2 = .ok (.ifCond .lt 14, 3) := by decide +kernel
theorem d_M_byteAt_5 : decode b_M_byteAt 5 = .ok (.iload_n 1, 1) := by decide +kernel
theorem d_M_byteAt_6 : decode b_M_byteAt 6 = .ok (.sipush 240, 3) := by decide +kernel
theorem d_M_byteAt_9 : decode b_M_byteAt 9 = .ok (.if_icmp .ge 7, 3) := by decide +kernel
theorem d_M_byteAt_12 : decode b_M_byteAt 12 = .ok (.iconst 0, 1) := by decide +kernel
theorem d_M_byteAt_13 : decode b_M_byteAt 13 = .ok (.goto 4, 3) := by decide +kernel
theorem d_M_byteAt_16 : decode b_M_byteAt 16 = .ok (.iconst 1, 1) := by decide +kernel
theorem d_M_byteAt_17 : decode b_M_byteAt 17 = .ok (.putfield 17, 3) := by decide +kernel
theorem d_M_byteAt_20 : decode b_M_byteAt 20 = .ok (.aload_n 0, 1) := by decide +kernel
theorem d_M_byteAt_21 : decode b_M_byteAt 21 = .ok (.getfield 17, 3) := by decide +kernel
theorem d_M_byteAt_24 : decode b_M_byteAt 24 = .ok (.ifCond .ne 12, 3) := by decide +kernel
theorem d_M_byteAt_27 : decode b_M_byteAt 27 = .ok (.aload_n 0, 1) := by decide +kernel
theorem d_M_byteAt_28 : decode b_M_byteAt 28 = .ok (.getfield 7, 3) := by decide +kernel
theorem d_M_byteAt_31 : decode b_M_byteAt 31 = .ok (.iload_n 1, 1) := by decide +kernel
theorem d_M_byteAt_32 : decode b_M_byteAt 32 = .ok (.iaload, 1) := by decide +kernel
theorem d_M_byteAt_33 : decode b_M_byteAt 33 = .ok (.goto 4, 3) := by decide +kernel
theorem d_M_byteAt_36 : decode b_M_byteAt 36 = .ok (.iconst 0, 1) := by decide +kernel
theorem d_M_byteAt_37 : decode b_M_byteAt 37 = .ok (.ireturn, 1) := by decide +kernel
theorem d_M_begin_0 : decode b_M_begin 0 = .ok (.aload_n 0, 1) := by decide +kernel
theorem d_M_begin_1 : decode b_M_begin 1 = .ok (.iconst 0, 1) := by decide +kernel
theorem d_M_begin_2 : decode b_M_begin 2 = .ok (.putfield 17, 3) := by decide +kernel
theorem d_M_begin_5 : decode b_M_begin 5 = .ok (.aload_n 0, 1) := by decide +kernel
theorem d_M_begin_6 : decode b_M_begin 6 = .ok (.getfield 37, 3) := by decide +kernel
theorem d_M_begin_9 : decode b_M_begin 9 = .ok (.ifCond .eq 37, 3) := by decide +kernel
theorem d_M_begin_12 : decode b_M_begin 12 = .ok (.iload_n 1, 1) := by decide +kernel
theorem d_M_begin_13 : decode b_M_begin 13 = .ok (.invokestatic 49, 3) := by decide +kernel
theorem d_M_begin_16 : decode b_M_begin 16 = .ok (.ifCond .eq 30, 3) := by decide +kernel
theorem d_M_begin_19 : decode b_M_begin 19 = .ok (.iload_n 2, 1) := by decide +kernel
theorem d_M_begin_20 : decode b_M_begin 20 = .ok (.invokestatic 53, 3) := by decide +kernel
theorem d_M_begin_23 : decode b_M_begin 23 = .ok (.ifCond .eq 23, 3) := by decide +kernel
theorem d_M_begin_26 : decode b_M_begin 26 = .ok (.aload_n 0, 1) := by decide +kernel
theorem d_M_begin_27 : decode b_M_begin 27 = .ok (.sipush 208, 3) := by decide +kernel
theorem d_M_begin_30 : decode b_M_begin 30 = .ok (.invokevirtual 76, 3) := by decide +kernel
theorem d_M_begin_33 : decode b_M_begin 33 = .ok (.ifCond .ne 13, 3) := by decide +kernel
theorem d_M_begin_36 : decode b_M_begin 36 = .ok (.aload_n 0, 1) := by decide +kernel
theorem d_M_begin_37 : decode b_M_begin 37 = .ok (.sipush 224, 3) := by decide +kernel
theorem d_M_begin_40 : decode b_M_begin 40 = .ok (.invokevirtual 76, 3) := by decide +kernel
theorem d_M_begin_43 : decode b_M_begin 43 = .ok (.ifCond .eq 5, 3) := by decide +kernel
theorem d_M_begin_46 : decode b_M_begin 46 = .ok (.iconst (-1), 1) := by decide +kernel
theorem d_M_begin_47 : decode b_M_begin 47 = .ok (.ireturn, 1) := by decide +kernel
theorem d_M_begin_48 : decode b_M_begin 48 = .ok (.aload_n 0, 1) := by decide +kernel
theorem d_M_begin_49 : decode b_M_begin 49 = .ok (.iconst 0, 1) := by decide +kernel
theorem d_M_begin_50 : decode b_M_begin 50 = .ok (.putfield 20, 3) := by decide +kernel
theorem d_M_begin_53 : decode b_M_begin 53 = .ok (.bipush 6, 2) := by decide +kernel
theorem d_M_begin_55 : decode b_M_begin 55 = .ok (.istore_n 3, 1) := by decide +kernel
theorem d_M_begin_56 : decode b_M_begin 56 = .ok (.iload_n 3, 1) := by decide +kernel
theorem d_M_begin_57 : decode b_M_begin 57 = .ok (.bipush 12, 2) := by decide +kernel
theorem d_M_begin_59 : decode b_M_begin 59 = .ok (.if_icmp .ge 14, 3) := by decide +kernel
theorem d_M_begin_62 : decode b_M_begin 62 = .ok (.aload_n 0, 1) := by decide +kernel
theorem d_M_begin_63 : decode b_M_begin 63 = .ok (.iload_n 3, 1) := by decide +kernel
theorem d_M_begin_64 : decode b_M_begin 64 = .ok (.invokevirtual 65, 3) := by decide +kernel
theorem d_M_begin_67 : decode b_M_begin 67 = .ok (.iinc 3 1, 3) := by decide +kernel
theorem d_M_begin_70 : decode b_M_begin 70 = .ok (.goto (-14), 3) := by decide +kernel
theorem d_M_begin_73 : decode b_M_begin 73 = .ok (.aload_n 0, 1) := by decide +kernel
theorem d_M_begin_74 : decode b_M_begin 74 = .ok (.iconst 4, 1) := by decide +kernel
theorem d_M_begin_75 : decode b_M_begin 75 = .ok (.putfield 40, 3) := by decide +kernel
theorem d_M_begin_78 : decode b_M_begin 78 = .ok (.aload_n 0, 1) := by decide +kernel
theorem d_M_begin_79 : decode b_M_begin 79 = .ok (.iload_n 2, 1) := by decide +kernel
theorem d_M_begin_80 : decode b_M_begin 80 = .ok (.putfield 101, 3) := by decide +kernel
theorem d_M_begin_83 : decode b_M_begin 83 = .ok (.aload_n 0, 1) := by decide +kernel
theorem d_M_begin_84 : decode b_M_begin 84 = .ok (.iload_n 1, 1) := by decide +kernel
theorem d_M_begin_85 : decode b_M_begin 85 = .ok (.putfield 104, 3) := by decide +kernel
theorem d_M_begin_88 : decode b_M_begin 88 = .ok (.aload_n 0, 1) := by decide +kernel
theorem d_M_begin_89 : decode b_M_begin 89 = .ok (.iconst 4, 1) := by decide +kernel
theorem d_M_begin_90 : decode b_M_begin 90 = .ok (.putfield 43, 3) := by decide +kernel
theorem d_M_begin_93 : decode b_M_begin 93 = .ok (.aload_n 0, 1) := by decide +kernel
theorem d_M_begin_94 : decode b_M_begin 94 = .ok (.iconst 0, 1) := by decide +kernel
theorem d_M_begin_95 : decode b_M_begin 95 = .ok (.putfield 107, 3) := by decide +kernel
theorem d_M_begin_98 : decode b_M_begin 98 = .ok (.aload_n 0, 1) := by decide +kernel
theorem d_M_begin_99 : decode b_M_begin 99 = .ok (.iconst 4, 1) := by decide +kernel
theorem d_M_begin_100 : decode b_M_begin 100 = .ok (.invokevirtual 98, 3) := by decide +kernel
theorem d_M_begin_103 : decode b_M_begin 103 = .ok (.ireturn, 1) := by decide +kernel
theorem d_M_mainByte_0 : decode b_M_mainByte 0 = .ok (.aload_n 0, 1) := by decide +kernel
theorem d_M_mainByte_1 : decode b_M_mainByte 1 = .ok (.getfield 43, 3) := by decide +kernel
theorem d_M_mainByte_4 : decode b_M_mainByte 4 = .ok (.bipush 96, 2) := by decide +kernel
theorem d_M_mainByte_6 : decode b_M_mainByte 6 = .ok (.if_icmp .ge 15, 3) := by decide +kernel
theorem d_M_mainByte_9 : decode b_M_mainByte 9 = .ok (.aload_n 0, 1) := by decide +kernel
theorem d_M_mainByte_10 : decode b_M_mainByte 10 = .ok (.getfield 7, 3) := by decide +kernel
theorem d_M_mainByte_13 : decode b_M_mainByte 13 = .ok (.aload_n 0, 1) := by decide +kernel
theorem d_M_mainByte_14 : decode b_M_mainByte 14 = .ok (.getfield 43, 3) := by decide +kernel
theorem d_M_mainByte_17 : decode b_M_mainByte 17 = .ok (.iaload, 1) := by decide +kernel
theorem d_M_mainByte_18 : decode b_M_mainByte 18 = .ok (.goto 4, 3) := by decide +kernel
theorem d_M_mainByte_21 : decode b_M_mainByte 21 = .ok (.iconst 0, 1) := by decide +kernel
theorem d_M_mainByte_22 : decode b_M_mainByte 22 = .ok (.ireturn, 1) := by decide +kernel
theorem d_M_make_0 : decode b_M_make 0 = .ok (.aload_n 0, 1) := by decide +kernel
theorem d_M_make_1 : decode b_M_make 1 = .ok (.getfield 40, 3) := by decide +kernel
theorem d_M_make_4 : decode b_M_make 4 = .ok (.aload_n 0, 1) := by decide +kernel
theorem d_M_make_5 : decode b_M_make 5 = .ok (.getfield 101, 3) := by decide +kernel
theorem d_M_make_8 : decode b_M_make 8 = .ok (.if_icmp .eq 10, 3) := by decide +kernel
theorem d_M_make_11 : decode b_M_make 11 = .ok (.aload_n 0, 1) := by decide +kernel
theorem d_M_make_12 : decode b_M_make 12 = .ok (.getfield 20, 3) := by decide +kernel
theorem d_M_make_15 : decode b_M_make 15 = .ok (.ifCond .eq 4, 3) := by decide +kernel
theorem d_M_make_18 : decode b_M_make 18 = .ok (.return_, 1) := by decide +kernel
theorem d_M_make_19 : decode b_M_make 19 = .ok (.aload_n 0, 1) := by decide +kernel
theorem d_M_make_20 : decode b_M_make 20 = .ok (.bipush 96, 2) := by decide +kernel
theorem d_M_make_22 : decode b_M_make 22 = .ok (.aload_n 0, 1) := by decide +kernel
theorem d_M_make_23 : decode b_M_make 23 = .ok (.getfield 40, 3) := by decide +kernel
theorem d_M_make_26 : decode b_M_make 26 = .ok (.iadd, 1) := by decide +kernel
theorem d_M_make_27 : decode b_M_make 27 = .ok (.iload_n 1, 1) := by decide +kernel
theorem d_M_make_28 : decode b_M_make 28 = .ok (.sipush 255, 3) := by decide +kernel
theorem d_M_make_31 : decode b_M_make 31 = .ok (.iand, 1) := by decide +kernel
theorem d_M_make_32 : decode b_M_make 32 = .ok (.invokevirtual 69, 3) := by decide +kernel
theorem d_M_make_35 : decode b_M_make 35 = .ok (.aload_n 0, 1) := by decide +kernel
theorem d_M_make_36 : decode b_M_make 36 = .ok (.dup, 1) := by decide +kernel
theorem d_M_make_37 : decode b_M_make 37 = .ok (.getfield 40, 3) := by decide +kernel
theorem d_M_make_40 : decode b_M_make 40 = .ok (.iconst 1, 1) := by decide +kernel
theorem d_M_make_41 : decode b_M_make 41 = .ok (.iadd, 1) := by decide +kernel
theorem d_M_make_42 : decode b_M_make 42 = .ok (.putfield 40, 3) := by decide +kernel
theorem d_M_make_45 : decode b_M_make 45 = .ok (.aload_n 0, 1) := by decide +kernel
theorem d_M_make_46 : decode b_M_make 46 = .ok (.getfield 40, 3) := by decide +kernel
theorem d_M_make_49 : decode b_M_make 49 = .ok (.aload_n 0, 1) := by decide +kernel
theorem d_M_make_50 : decode b_M_make 50 = .ok (.getfield 101, 3) := by decide +kernel
theorem d_M_make_53 : decode b_M_make 53 = .ok (.if_icmp .ge 4, 3) := by decide +kernel
theorem d_M_make_56 : decode b_M_make 56 = .ok (.return_, 1) := by decide +kernel
theorem d_M_make_57 : decode b_M_make 57 = .ok (.aload_n 0, 1) := by decide +kernel
theorem d_M_make_58 : decode b_M_make 58 = .ok (.bipush 99, 2) := by decide +kernel
theorem d_M_make_60 : decode b_M_make 60 = .ok (.aload_n 0, 1) := by decide +kernel
theorem d_M_make_61 : decode b_M_make 61 = .ok (.bipush 96, 2) := by decide +kernel
theorem d_M_make_63 : decode b_M_make 63 = .ok (.aload_n 0, 1) := by decide +kernel
theorem d_M_make_64 : decode b_M_make 64 = .ok (.getfield 104, 3) := by decide +kernel
theorem d_M_make_67 : decode b_M_make 67 = .ok (.aload_n 0, 1) := by decide +kernel
theorem d_M_make_68 : decode b_M_make 68 = .ok (.getfield 101, 3) := by decide +kernel
theorem d_M_make_71 : decode b_M_make 71 = .ok (.invokevirtual 56, 3) := by decide +kernel
theorem d_M_make_74 : decode b_M_make 74 = .ok (.invokevirtual 69, 3) := by decide +kernel
theorem d_M_make_77 : decode b_M_make 77 = .ok (.aload_n 0, 1) := by decide +kernel
theorem d_M_make_78 : decode b_M_make 78 = .ok (.bipush 98, 2) := by decide +kernel
theorem d_M_make_80 : decode b_M_make 80 = .ok (.aload_n 0, 1) := by decide +kernel
theorem d_M_make_81 : decode b_M_make 81 = .ok (.getfield 101, 3) := by decide +kernel
theorem d_M_make_84 : decode b_M_make 84 = .ok (.invokevirtual 69, 3) := by decide +kernel
theorem d_M_make_87 : decode b_M_make 87 = .ok (.aload_n 0, 1) := by decide +kernel
theorem d_M_make_88 : decode b_M_make 88 = .ok (.bipush 97, 2) := by decide +kernel
theorem d_M_make_90 : decode b_M_make 90 = .ok (.aload_n 0, 1) := by decide +kernel
theorem d_M_make_91 : decode b_M_make 91 = .ok (.getfield 104, 3) := by decide +kernel
theorem d_M_make_94 : decode b_M_make 94 = .ok (.invokevirtual 69, 3) := by decide +kernel
theorem d_M_make_97 : decode b_M_make 97 = .ok (.aload_n 0, 1) := by decide +kernel
theorem d_M_make_98 : decode b_M_make 98 = .ok (.bipush 96, 2) := by decide +kernel
theorem d_M_make_100 : decode b_M_make 100 = .ok (.sipush 165, 3) := by decide +kernel
theorem d_M_make_103 : decode b_M_make 103 = .ok (.invokevirtual 69, 3) := by decide +kernel
theorem d_M_make_106 : decode b_M_make 106 = .ok (.return_, 1) := by decide +kernel
theorem d_M_copy_0 : decode b_M_copy 0 = .ok (.iconst 0, 1) := by decide +kernel
theorem d_M_copy_1 : decode b_M_copy 1 = .ok (.istore_n 2, 1) := by decide +kernel
theorem d_M_copy_2 : decode b_M_copy 2 = .ok (.iload_n 2, 1) := by decide +kernel
theorem d_M_copy_3 : decode b_M_copy 3 = .ok (.iload_n 1, 1) := by decide +kernel
theorem d_M_copy_4 : decode b_M_copy 4 = .ok (.if_icmp .ge 47, 3) := by decide +kernel
theorem d_M_copy_7 : decode b_M_copy 7 = .ok (.aload_n 0, 1) := by decide +kernel
theorem d_M_copy_8 : decode b_M_copy 8 = .ok (.getfield 40, 3) := by decide +kernel
theorem d_M_copy_11 : decode b_M_copy 11 = .ok (.aload_n 0, 1) := by decide +kernel
theorem d_M_copy_12 : decode b_M_copy 12 = .ok (.getfield 101, 3) := by decide +kernel
theorem d_M_copy_15 : decode b_M_copy 15 = .ok (.if_icmp .ge 36, 3) := by decide +kernel
theorem d_M_copy_18 : decode b_M_copy 18 = .ok (.aload_n 0, 1) := by decide +kernel
theorem d_M_copy_19 : decode b_M_copy 19 = .ok (.getfield 20, 3) := by decide +kernel
theorem d_M_copy_22 : decode b_M_copy 22 = .ok (.ifCond .ne 29, 3) := by decide +kernel
theorem d_M_copy_25 : decode b_M_copy 25 = .ok (.aload_n 0, 1) := by decide +kernel
theorem d_M_copy_26 : decode b_M_copy 26 = .ok (.invokevirtual 110, 3) := by decide +kernel
theorem d_M_copy_29 : decode b_M_copy 29 = .ok (.istore_n 3, 1) := by decide +kernel
theorem d_M_copy_30 : decode b_M_copy 30 = .ok (.aload_n 0, 1) := by decide +kernel
theorem d_M_copy_31 : decode b_M_copy 31 = .ok (.dup, 1) := by decide +kernel
theorem d_M_copy_32 : decode b_M_copy 32 = .ok (.getfield 43, 3) := by decide +kernel
theorem d_M_copy_35 : decode b_M_copy 35 = .ok (.iconst 1, 1) := by decide +kernel
theorem d_M_copy_36 : decode b_M_copy 36 = .ok (.iadd, 1) := by decide +kernel
theorem d_M_copy_37 : decode b_M_copy 37 = .ok (.putfield 43, 3) := by decide +kernel
theorem d_M_copy_40 : decode b_M_copy 40 = .ok (.aload_n 0, 1) := by decide +kernel
theorem d_M_copy_41 : decode b_M_copy 41 = .ok (.iload_n 3, 1) := by decide +kernel
theorem d_M_copy_42 : decode b_M_copy 42 = .ok (.invokevirtual 114, 3) := by decide +kernel
theorem d_M_copy_45 : decode b_M_copy 45 = .ok (.iinc 2 1, 3) := by decide +kernel
theorem d_M_copy_48 : decode b_M_copy 48 = .ok (.goto (-46), 3) := by decide +kernel
theorem d_M_copy_51 : decode b_M_copy 51 = .ok (.return_, 1) := by decide +kernel
theorem d_M_command_0 : decode b_M_command 0 = .ok (.iload_n 1, 1) := by decide +kernel
theorem d_M_command_1 : decode b_M_command 1 = .ok (.bipush 64, 2) := by decide +kernel
theorem d_M_command_3 : decode b_M_command 3 = .ok (.irem, 1) := by decide +kernel
theorem d_M_command_4 : decode b_M_command 4 = .ok (.iconst 1, 1) := by decide +kernel
theorem d_M_command_5 : decode b_M_command 5 = .ok (.iadd, 1) := by decide +kernel
theorem d_M_command_6 : decode b_M_command 6 = .ok (.istore_n 2, 1) := by decide +kernel
theorem d_M_command_7 : decode b_M_command 7 = .ok (.aload_n 0, 1) := by decide +kernel
theorem d_M_command_8 : decode b_M_command 8 = .ok (.iload_n 2, 1) := by decide +kernel
theorem d_M_command_9 : decode b_M_command 9 = .ok (.aload_n 0, 1) := by decide +kernel
theorem d_M_command_10 : decode b_M_command 10 = .ok (.getfield 101, 3) := by decide +kernel
theorem d_M_command_13 : decode b_M_command 13 = .ok (.aload_n 0, 1) := by decide +kernel
theorem d_M_command_14 : decode b_M_command 14 = .ok (.getfield 40, 3) := by decide +kernel
theorem d_M_command_17 : decode b_M_command 17 = .ok (.isub, 1) := by decide +kernel
theorem d_M_command_18 : decode b_M_command 18 = .ok (.if_icmp .ge 7, 3) := by decide +kernel
theorem d_M_command_21 : decode b_M_command 21 = .ok (.iload_n 2, 1) := by decide +kernel
theorem d_M_command_22 : decode b_M_command 22 = .ok (.goto 12, 3) := by decide +kernel
theorem d_M_command_25 : decode b_M_command 25 = .ok (.aload_n 0, 1) := by decide +kernel
theorem d_M_command_26 : decode b_M_command 26 = .ok (.getfield 101, 3) := by decide +kernel
theorem d_M_command_29 : decode b_M_command 29 = .ok (.aload_n 0, 1) := by decide +kernel
theorem d_M_command_30 : decode b_M_command 30 = .ok (.getfield 40, 3) := by decide +kernel
theorem d_M_command_33 : decode b_M_command 33 = .ok (.isub, 1) := by decide +kernel
theorem d_M_command_34 : decode b_M_command 34 = .ok (.putfield 117, 3) := by decide +kernel
theorem d_M_command_37 : decode b_M_command 37 = .ok (.iload_n 1, 1) := by decide +kernel
theorem d_M_command_38 : decode b_M_command 38 = .ok (.bipush 64, 2) := by decide +kernel
theorem d_M_command_40 : decode b_M_command 40 = .ok (.if_icmp .ge 11, 3) := by decide +kernel
theorem d_M_command_43 : decode b_M_command 43 = .ok (.aload_n 0, 1) := by decide +kernel
theorem d_M_command_44 : decode b_M_command 44 = .ok (.iload_n 2, 1) := by decide +kernel
theorem d_M_command_45 : decode b_M_command 45 = .ok (.invokevirtual 120, 3) := by decide +kernel
theorem d_M_command_48 : decode b_M_command 48 = .ok (.goto 11, 3) := by decide +kernel
theorem d_M_command_51 : decode b_M_command 51 = .ok (.aload_n 0, 1) := by decide +kernel
theorem d_M_command_52 : decode b_M_command 52 = .ok (.iload_n 1, 1) := by decide +kernel
theorem d_M_command_53 : decode b_M_command 53 = .ok (.bipush 64, 2) := by decide +kernel
theorem d_M_command_55 : decode b_M_command 55 = .ok (.idiv, 1) := by decide +kernel
theorem d_M_command_56 : decode b_M_command 56 = .ok (.putfield 107, 3) := by decide +kernel
theorem d_M_command_59 : decode b_M_command 59 = .ok (.return_, 1) := by decide +kernel
theorem d_M_take_0 : decode b_M_take 0 = .ok (.aload_n 0, 1) := by decide +kernel
theorem d_M_take_1 : decode b_M_take 1 = .ok (.getfield 107, 3) := by decide +kernel
theorem d_M_take_4 : decode b_M_take 4 = .ok (.ifCond .ne 9, 3) := by decide +kernel
theorem d_M_take_7 : decode b_M_take 7 = .ok (.aload_n 0, 1) := by decide +kernel
theorem d_M_take_8 : decode b_M_take 8 = .ok (.iload_n 1, 1) := by decide +kernel
theorem d_M_take_9 : decode b_M_take 9 = .ok (.invokevirtual 123, 3) := by decide +kernel
theorem d_M_take_12 : decode b_M_take 12 = .ok (.return_, 1) := by decide +kernel
theorem d_M_take_13 : decode b_M_take 13 = .ok (.aload_n 0, 1) := by decide +kernel
theorem d_M_take_14 : decode b_M_take 14 = .ok (.getfield 107, 3) := by decide +kernel
theorem d_M_take_17 : decode b_M_take 17 = .ok (.iconst 1, 1) := by decide +kernel
theorem d_M_take_18 : decode b_M_take 18 = .ok (.if_icmp .ne 14, 3) := by decide +kernel
theorem d_M_take_21 : decode b_M_take 21 = .ok (.aload_n 0, 1) := by decide +kernel
theorem d_M_take_22 : decode b_M_take 22 = .ok (.iload_n 1, 1) := by decide +kernel
theorem d_M_take_23 : decode b_M_take 23 = .ok (.putfield 43, 3) := by decide +kernel
theorem d_M_take_26 : decode b_M_take 26 = .ok (.aload_n 0, 1) := by decide +kernel
theorem d_M_take_27 : decode b_M_take 27 = .ok (.iconst 0, 1) := by decide +kernel
theorem d_M_take_28 : decode b_M_take 28 = .ok (.putfield 107, 3) := by decide +kernel
theorem d_M_take_31 : decode b_M_take 31 = .ok (.return_, 1) := by decide +kernel
theorem d_M_take_32 : decode b_M_take 32 = .ok (.aload_n 0, 1) := by decide +kernel
theorem d_M_take_33 : decode b_M_take 33 = .ok (.getfield 107, 3) := by decide +kernel
theorem d_M_take_36 : decode b_M_take 36 = .ok (.iconst 2, 1) := by decide +kernel
theorem d_M_take_37 : decode b_M_take 37 = .ok (.if_icmp .ne 7, 3) := by decide +kernel
theorem d_M_take_40 : decode b_M_take 40 = .ok (.iload_n 1, 1) := by decide +kernel
theorem d_M_take_41 : decode b_M_take 41 = .ok (.goto 9, 3) := by decide +kernel
theorem d_M_take_44 : decode b_M_take 44 = .ok (.iload_n 1, 1) := by decide +kernel
theorem d_M_take_45 : decode b_M_take 45 = .ok (.aload_n 0, 1) := by decide +kernel
theorem d_M_take_46 : decode b_M_take 46 = .ok (.invokevirtual 110, 3) := by decide +kernel
theorem d_M_take_49 : decode b_M_take 49 = .ok (.iadd, 1) := by decide +kernel
theorem d_M_take_50 : decode b_M_take 50 = .ok (.istore_n 2, 1) := by decide +kernel
theorem d_M_take_51 : decode b_M_take 51 = .ok (.aload_n 0, 1) := by decide +kernel
theorem d_M_take_52 : decode b_M_take 52 = .ok (.dup, 1) := by decide +kernel
theorem d_M_take_53 : decode b_M_take 53 = .ok (.getfield 43, 3) := by decide +kernel
theorem d_M_take_56 : decode b_M_take 56 = .ok (.aload_n 0, 1) := by decide +kernel
theorem d_M_take_57 : decode b_M_take 57 = .ok (.getfield 107, 3) := by decide +kernel
theorem d_M_take_60 : decode b_M_take 60 = .ok (.iconst 3, 1) := by decide +kernel
theorem d_M_take_61 : decode b_M_take 61 = .ok (.if_icmp .ne 7, 3) := by decide +kernel
theorem d_M_take_64 : decode b_M_take 64 = .ok (.iconst 1, 1) := by decide +kernel
theorem d_M_take_65 : decode b_M_take 65 = .ok (.goto 4, 3) := by decide +kernel
theorem d_M_take_68 : decode b_M_take 68 = .ok (.iconst 0, 1) := by decide +kernel
theorem d_M_take_69 : decode b_M_take 69 = .ok (.iadd, 1) := by decide +kernel
theorem d_M_take_70 : decode b_M_take 70 = .ok (.putfield 43, 3) := by decide +kernel
theorem d_M_take_73 : decode b_M_take 73 = .ok (.aload_n 0, 1) := by decide +kernel
theorem d_M_take_74 : decode b_M_take 74 = .ok (.dup, 1) := by decide +kernel
theorem d_M_take_75 : decode b_M_take 75 = .ok (.getfield 117, 3) := by decide +kernel
theorem d_M_take_78 : decode b_M_take 78 = .ok (.iconst 1, 1) := by decide +kernel
theorem d_M_take_79 : decode b_M_take 79 = .ok (.isub, 1) := by decide +kernel
theorem d_M_take_80 : decode b_M_take 80 = .ok (.putfield 117, 3) := by decide +kernel
theorem d_M_take_83 : decode b_M_take 83 = .ok (.aload_n 0, 1) := by decide +kernel
theorem d_M_take_84 : decode b_M_take 84 = .ok (.aload_n 0, 1) := by decide +kernel
theorem d_M_take_85 : decode b_M_take 85 = .ok (.getfield 117, 3) := by decide +kernel
theorem d_M_take_88 : decode b_M_take 88 = .ok (.ifCond .ne 7, 3) := by decide +kernel
theorem d_M_take_91 : decode b_M_take 91 = .ok (.iconst 0, 1) := by decide +kernel
theorem d_M_take_92 : decode b_M_take 92 = .ok (.goto 7, 3) := by decide +kernel
theorem d_M_take_95 : decode b_M_take 95 = .ok (.aload_n 0, 1) := by decide +kernel
theorem d_M_take_96 : decode b_M_take 96 = .ok (.getfield 107, 3) := by decide +kernel
theorem d_M_take_99 : decode b_M_take 99 = .ok (.putfield 107, 3) := by decide +kernel
theorem d_M_take_102 : decode b_M_take 102 = .ok (.aload_n 0, 1) := by decide +kernel
theorem d_M_take_103 : decode b_M_take 103 = .ok (.iload_n 2, 1) := by decide +kernel
theorem d_M_take_104 : decode b_M_take 104 = .ok (.invokevirtual 114, 3) := by decide +kernel
theorem d_M_take_107 : decode b_M_take 107 = .ok (.return_, 1) := by decide +kernel
set_option maxHeartbeats 4000000 in
set_option maxRecDepth 100000 in
theorem k_M_off (l : Launch) (D : va_G) (cA : ClassId) (aM aG : Nat) (st : Ms) (sz : Nat) : Ci l y_M_off b_M_off 2 (some .boolean) 1 D cA (MW cA aM aG) st sz [.ref aM] (fun r u => r = b2i st.2.1.2.1 ∧ u = mlose (mr0 st)) := by
  refine Ci.enter (by decide) (Nat.le_of_ble_eq_true rfl) ?_
  intro pr en s0 m0 ar bl me co A ls hx hb hml hr hlk hown hts hK hN hA hP hD hS hl
  have hl : lv_has ls 2 [(0, .ref aM)] := hl
  have hown : s0.vm.findClass R_M = some m0.cls := hown
  refine lv_aload_n hx hb d_M_off_0 rfl (lv_at hl 0 rfl) ?_
  refine lv_iconst (v := 0) hx hb d_M_off_1 (by decide) ?_
  refine va_put (D := D) (ci := 4) (v := .int (0 : Int32)) (ty := .int) (C := R_M) (T := T_M) (N := 14) hx hb hts in_M ty_M ty_M_ok nm_M hown hK hP hD hS 0 rfl rfl 0 (by decide) (hts _ wm_354) (fun _ h9 => h9) rfl (ty_M_ok 0 (by decide)) rfl rfl (Nat.le_of_ble_eq_true rfl) d_M_off_2 (fun H locs hP hD hS => ?_)
  have hP : va_P D vwC (MW cA aM aG (((st.1.1.1, st.1.1.2.1, st.1.1.2.2.1, st.1.1.2.2.2), st.1.2), ((0 : Int32), st.2.1.2.1, st.2.1.2.2), (st.2.2.1, st.2.2.2.1, st.2.2.2.2.1, st.2.2.2.2.2.1, st.2.2.2.2.2.2.1, st.2.2.2.2.2.2.2))) H := hP
  have hD : va_D A (MW cA aM aG (((st.1.1.1, st.1.1.2.1, st.1.1.2.2.1, st.1.1.2.2.2), st.1.2), ((0 : Int32), st.2.1.2.1, st.2.1.2.2), (st.2.2.1, st.2.2.2.1, st.2.2.2.2.1, st.2.2.2.2.2.1, st.2.2.2.2.2.2.1, st.2.2.2.2.2.2.2))) := hD
  refine lv_aload_n hx hb d_M_off_5 rfl (lv_at hl 0 rfl) ?_
  refine va_get (D := D) (ci := 4) (v := .int (b2i (st.2.1.2.1))) (C := R_M) (T := T_M) (N := 14) hx hb hts in_M hown hK hP 0 rfl rfl 2 (by decide) (hts _ wm_356) (fun _ h9 => h9) rfl d_M_off_6 ?_
  refine lv_istore_n hx hb d_M_off_9 rfl hl (by decide) rfl (fun ls hl => ?_)
  have hl : lv_has ls 2 [(1, .int (b2i (st.2.1.2.1))), (0, .ref aM)] := hl
  refine lv_aload_n hx hb d_M_off_10 rfl (lv_at hl 1 rfl) ?_
  obtain ⟨v11, hv11⟩ : ∃ x : Ms, x = (((st.1.1.1, st.1.1.2.1, st.1.1.2.2.1, st.1.1.2.2.2), st.1.2), ((0 : Int32), st.2.1.2.1, st.2.1.2.2), (st.2.2.1, st.2.2.2.1, st.2.2.2.2.1, st.2.2.2.2.2.1, st.2.2.2.2.2.2.1, st.2.2.2.2.2.2.2)) := ⟨_, rfl⟩
  have hP : va_P D vwC (MW cA aM aG v11) H := by rw [hv11]; exact hP
  have hD : va_D A (MW cA aM aG v11) := by rw [hv11]; exact hD
  refine sw_callVv (rest := []) 0 4 [] hx hb hml hown hts hK hN hA hP hD hS (k_M_lose l D cA aM aG v11 _) cw_M_46 rfl rfl rfl ⟨Nat.le_of_ble_eq_true rfl, Nat.le_of_ble_eq_true rfl⟩ hl.1 rfl rfl (Nat.le_of_ble_eq_true rfl) d_M_off_11 (fun u11 H locs hq11 hP hD hS => ?_)
  have hu11 : u11 = mlose v11 := hq11
  refine lv_iload_n hx hb d_M_off_14 rfl (lv_at hl 0 rfl) ?_
  refine sw_iret (u := u11) (v := b2i (st.2.1.2.1)) hx hb hr hlk hK hP hD hS d_M_off_15 (nb_b2i _) ?_
  exact ⟨rfl, by rw [hu11, hv11] <;> rfl⟩
set_option maxHeartbeats 4000000 in
set_option maxRecDepth 100000 in
theorem k_M_cut (l : Launch) (D : va_G) (cA : ClassId) (aM aG : Nat) (st : Ms) (sz : Nat) (k : Int32) : Ci l y_M_cut b_M_cut 2 (some .boolean) 0 D cA (MW cA aM aG) st sz [.ref aM, .int k] (fun r u => r = b2i (ccutok k) ∧ u = mcut k st) := by
  refine Ci.enter (by decide) (Nat.le_of_ble_eq_true rfl) ?_
  intro pr en s0 m0 ar bl me co A ls hx hb hml hr hlk hown hts hK hN hA hP hD hS hl
  have hl : lv_has ls 2 [(0, .ref aM), (1, .int k)] := hl
  have hown : s0.vm.findClass R_M = some m0.cls := hown
  refine lv_aload_n hx hb d_M_cut_0 rfl (lv_at hl 0 rfl) ?_
  refine lv_iconst (v := 0) hx hb d_M_cut_1 (by decide) ?_
  refine va_put (D := D) (ci := 4) (v := .int (0 : Int32)) (ty := .int) (C := R_M) (T := T_M) (N := 14) hx hb hts in_M ty_M ty_M_ok nm_M hown hK hP hD hS 0 rfl rfl 0 (by decide) (hts _ wm_354) (fun _ h9 => h9) rfl (ty_M_ok 0 (by decide)) rfl rfl (Nat.le_of_ble_eq_true rfl) d_M_cut_2 (fun H locs hP hD hS => ?_)
  have hP : va_P D vwC (MW cA aM aG (((st.1.1.1, st.1.1.2.1, st.1.1.2.2.1, st.1.1.2.2.2), st.1.2), ((0 : Int32), st.2.1.2.1, st.2.1.2.2), (st.2.2.1, st.2.2.2.1, st.2.2.2.2.1, st.2.2.2.2.2.1, st.2.2.2.2.2.2.1, st.2.2.2.2.2.2.2))) H := hP
  have hD : va_D A (MW cA aM aG (((st.1.1.1, st.1.1.2.1, st.1.1.2.2.1, st.1.1.2.2.2), st.1.2), ((0 : Int32), st.2.1.2.1, st.2.1.2.2), (st.2.2.1, st.2.2.2.1, st.2.2.2.2.1, st.2.2.2.2.2.1, st.2.2.2.2.2.2.1, st.2.2.2.2.2.2.2))) := hD
  refine lv_iload_n hx hb d_M_cut_5 rfl (lv_at hl 1 rfl) ?_
  refine lv_if_lt (tgt := 16) hx hb d_M_cut_6 (by decide) (fun h6 => ?_) (fun h6 => ?_)
  · skip
    refine lv_iconst (v := 0) hx hb d_M_cut_16 (by decide) ?_
    refine sw_iret (u := (((st.1.1.1, st.1.1.2.1, st.1.1.2.2.1, st.1.1.2.2.2), st.1.2), ((0 : Int32), st.2.1.2.1, st.2.1.2.2), (st.2.2.1, st.2.2.2.1, st.2.2.2.2.1, st.2.2.2.2.2.1, st.2.2.2.2.2.2.1, st.2.2.2.2.2.2.2))) (v := (0 : Int32)) hx hb hr hlk hK hP hD hS d_M_cut_17 rfl ?_
    have e : ccutok k = false := decide_eq_false (fun q => q.1 h6)
    rw [e, show mcut k st = mr0 st from if_neg (by rw [e]; decide)]
    exact ⟨rfl, rfl⟩
  · skip
    refine lv_iload_n hx hb d_M_cut_9 rfl (lv_at hl 1 rfl) ?_
    refine lv_sipush (v := 1000) hx hb d_M_cut_10 (by decide) ?_
    refine lv_icmp_le (tgt := 18) hx hb d_M_cut_13 (by decide) (fun h13 => ?_) (fun h13 => ?_)
    · skip
      refine lv_aload_n hx hb d_M_cut_18 rfl (lv_at hl 0 rfl) ?_
      refine lv_iload_n hx hb d_M_cut_19 rfl (lv_at hl 1 rfl) ?_
      refine va_put (D := D) (ci := 4) (v := .int k) (ty := .int) (C := R_M) (T := T_M) (N := 14) hx hb hts in_M ty_M ty_M_ok nm_M hown hK hP hD hS 0 rfl rfl 4 (by decide) (hts _ wm_358) (fun _ h9 => h9) rfl (ty_M_ok 4 (by decide)) rfl rfl (Nat.le_of_ble_eq_true rfl) d_M_cut_20 (fun H locs hP hD hS => ?_)
      have hP : va_P D vwC (MW cA aM aG (((st.1.1.1, k, st.1.1.2.2.1, st.1.1.2.2.2), st.1.2), ((0 : Int32), st.2.1.2.1, st.2.1.2.2), (st.2.2.1, st.2.2.2.1, st.2.2.2.2.1, st.2.2.2.2.2.1, st.2.2.2.2.2.2.1, st.2.2.2.2.2.2.2))) H := hP
      have hD : va_D A (MW cA aM aG (((st.1.1.1, k, st.1.1.2.2.1, st.1.1.2.2.2), st.1.2), ((0 : Int32), st.2.1.2.1, st.2.1.2.2), (st.2.2.1, st.2.2.2.1, st.2.2.2.2.1, st.2.2.2.2.2.1, st.2.2.2.2.2.2.1, st.2.2.2.2.2.2.2))) := hD
      refine lv_iconst (v := 1) hx hb d_M_cut_23 (by decide) ?_
      refine sw_iret (u := (((st.1.1.1, k, st.1.1.2.2.1, st.1.1.2.2.2), st.1.2), ((0 : Int32), st.2.1.2.1, st.2.1.2.2), (st.2.2.1, st.2.2.2.1, st.2.2.2.2.1, st.2.2.2.2.2.1, st.2.2.2.2.2.2.1, st.2.2.2.2.2.2.2))) (v := (1 : Int32)) hx hb hr hlk hK hP hD hS d_M_cut_24 rfl ?_
      have e : ccutok k = true := decide_eq_true ⟨h6, i32_nlt h13⟩
      rw [e, show mcut k st = _ from if_pos e]
      exact ⟨rfl, rfl⟩
    · skip
      refine lv_iconst (v := 0) hx hb d_M_cut_16 (by decide) ?_
      refine sw_iret (u := (((st.1.1.1, st.1.1.2.1, st.1.1.2.2.1, st.1.1.2.2.2), st.1.2), ((0 : Int32), st.2.1.2.1, st.2.1.2.2), (st.2.2.1, st.2.2.2.1, st.2.2.2.2.1, st.2.2.2.2.2.1, st.2.2.2.2.2.2.1, st.2.2.2.2.2.2.2))) (v := (0 : Int32)) hx hb hr hlk hK hP hD hS d_M_cut_17 rfl ?_
      have e : ccutok k = false := decide_eq_false (fun q => q.2 (i32_lt h13))
      rw [e, show mcut k st = mr0 st from if_neg (by rw [e]; decide)]
      exact ⟨rfl, rfl⟩
set_option maxHeartbeats 4000000 in
set_option maxRecDepth 100000 in
theorem k_M_safe (l : Launch) (D : va_G) (cA : ClassId) (aM aG : Nat) (st : Ms) (sz : Nat) : Ci l y_M_safe b_M_safe 2 (some .int) 0 D cA (MW cA aM aG) st sz [.ref aM] (fun r u => r = st.1.1.2.1 ∧ u = msafe st) := by
  refine Ci.enter (by decide) (Nat.le_of_ble_eq_true rfl) ?_
  intro pr en s0 m0 ar bl me co A ls hx hb hml hr hlk hown hts hK hN hA hP hD hS hl
  have hl : lv_has ls 2 [(0, .ref aM)] := hl
  have hown : s0.vm.findClass R_M = some m0.cls := hown
  refine lv_aload_n hx hb d_M_safe_0 rfl (lv_at hl 0 rfl) ?_
  refine lv_iconst (v := 0) hx hb d_M_safe_1 (by decide) ?_
  refine va_put (D := D) (ci := 4) (v := .int (0 : Int32)) (ty := .int) (C := R_M) (T := T_M) (N := 14) hx hb hts in_M ty_M ty_M_ok nm_M hown hK hP hD hS 0 rfl rfl 0 (by decide) (hts _ wm_354) (fun _ h9 => h9) rfl (ty_M_ok 0 (by decide)) rfl rfl (Nat.le_of_ble_eq_true rfl) d_M_safe_2 (fun H locs hP hD hS => ?_)
  have hP : va_P D vwC (MW cA aM aG (((st.1.1.1, st.1.1.2.1, st.1.1.2.2.1, st.1.1.2.2.2), st.1.2), ((0 : Int32), st.2.1.2.1, st.2.1.2.2), (st.2.2.1, st.2.2.2.1, st.2.2.2.2.1, st.2.2.2.2.2.1, st.2.2.2.2.2.2.1, st.2.2.2.2.2.2.2))) H := hP
  have hD : va_D A (MW cA aM aG (((st.1.1.1, st.1.1.2.1, st.1.1.2.2.1, st.1.1.2.2.2), st.1.2), ((0 : Int32), st.2.1.2.1, st.2.1.2.2), (st.2.2.1, st.2.2.2.1, st.2.2.2.2.1, st.2.2.2.2.2.1, st.2.2.2.2.2.2.1, st.2.2.2.2.2.2.2))) := hD
  refine lv_aload_n hx hb d_M_safe_5 rfl (lv_at hl 0 rfl) ?_
  refine va_get (D := D) (ci := 4) (v := .int st.1.1.2.1) (C := R_M) (T := T_M) (N := 14) hx hb hts in_M hown hK hP 0 rfl rfl 4 (by decide) (hts _ wm_358) (fun _ h9 => h9) rfl d_M_safe_6 ?_
  refine lv_istore_n hx hb d_M_safe_9 rfl hl (by decide) rfl (fun ls hl => ?_)
  have hl : lv_has ls 2 [(1, .int st.1.1.2.1), (0, .ref aM)] := hl
  refine lv_aload_n hx hb d_M_safe_10 rfl (lv_at hl 1 rfl) ?_
  refine lv_iconst (v := -1) hx hb d_M_safe_11 (by decide) ?_
  refine va_put (D := D) (ci := 4) (v := .int (-1 : Int32)) (ty := .int) (C := R_M) (T := T_M) (N := 14) hx hb hts in_M ty_M ty_M_ok nm_M hown hK hP hD hS 0 rfl rfl 4 (by decide) (hts _ wm_358) (fun _ h9 => h9) rfl (ty_M_ok 4 (by decide)) rfl rfl (Nat.le_of_ble_eq_true rfl) d_M_safe_12 (fun H locs hP hD hS => ?_)
  have hP : va_P D vwC (MW cA aM aG (((st.1.1.1, (-1 : Int32), st.1.1.2.2.1, st.1.1.2.2.2), st.1.2), ((0 : Int32), st.2.1.2.1, st.2.1.2.2), (st.2.2.1, st.2.2.2.1, st.2.2.2.2.1, st.2.2.2.2.2.1, st.2.2.2.2.2.2.1, st.2.2.2.2.2.2.2))) H := hP
  have hD : va_D A (MW cA aM aG (((st.1.1.1, (-1 : Int32), st.1.1.2.2.1, st.1.1.2.2.2), st.1.2), ((0 : Int32), st.2.1.2.1, st.2.1.2.2), (st.2.2.1, st.2.2.2.1, st.2.2.2.2.1, st.2.2.2.2.2.1, st.2.2.2.2.2.2.1, st.2.2.2.2.2.2.2))) := hD
  refine lv_iload_n hx hb d_M_safe_15 rfl (lv_at hl 0 rfl) ?_
  refine sw_iret (u := (((st.1.1.1, (-1 : Int32), st.1.1.2.2.1, st.1.1.2.2.2), st.1.2), ((0 : Int32), st.2.1.2.1, st.2.1.2.2), (st.2.2.1, st.2.2.2.1, st.2.2.2.2.1, st.2.2.2.2.2.1, st.2.2.2.2.2.2.1, st.2.2.2.2.2.2.2))) (v := st.1.1.2.1) hx hb hr hlk hK hP hD hS d_M_safe_16 rfl ?_
  exact ⟨rfl, rfl⟩
set_option maxHeartbeats 4000000 in
set_option maxRecDepth 100000 in
theorem k_M_request (l : Launch) (D : va_G) (cA : ClassId) (aM aG : Nat) (st : Ms) (sz : Nat) : Ci l y_M_request b_M_request 1 (some .int) 2 D cA (MW cA aM aG) st sz [.ref aM] (fun r u => r = (mreq st).1 ∧ u = (mreq st).2) := by
  refine Ci.enter (by decide) (Nat.le_of_ble_eq_true rfl) ?_
  intro pr en s0 m0 ar bl me co A ls hx hb hml hr hlk hown hts hK hN hA hP hD hS hl
  have hl : lv_has ls 1 [(0, .ref aM)] := hl
  have hown : s0.vm.findClass R_M = some m0.cls := hown
  refine lv_aload_n hx hb d_M_request_0 rfl (lv_at hl 0 rfl) ?_
  refine lv_iconst (v := 0) hx hb d_M_request_1 (by decide) ?_
  refine va_put (D := D) (ci := 4) (v := .int (0 : Int32)) (ty := .int) (C := R_M) (T := T_M) (N := 14) hx hb hts in_M ty_M ty_M_ok nm_M hown hK hP hD hS 0 rfl rfl 0 (by decide) (hts _ wm_354) (fun _ h9 => h9) rfl (ty_M_ok 0 (by decide)) rfl rfl (Nat.le_of_ble_eq_true rfl) d_M_request_2 (fun H locs hP hD hS => ?_)
  have hP : va_P D vwC (MW cA aM aG (((st.1.1.1, st.1.1.2.1, st.1.1.2.2.1, st.1.1.2.2.2), st.1.2), ((0 : Int32), st.2.1.2.1, st.2.1.2.2), (st.2.2.1, st.2.2.2.1, st.2.2.2.2.1, st.2.2.2.2.2.1, st.2.2.2.2.2.2.1, st.2.2.2.2.2.2.2))) H := hP
  have hD : va_D A (MW cA aM aG (((st.1.1.1, st.1.1.2.1, st.1.1.2.2.1, st.1.1.2.2.2), st.1.2), ((0 : Int32), st.2.1.2.1, st.2.1.2.2), (st.2.2.1, st.2.2.2.1, st.2.2.2.2.1, st.2.2.2.2.2.1, st.2.2.2.2.2.2.1, st.2.2.2.2.2.2.2))) := hD
  refine lv_aload_n hx hb d_M_request_5 rfl (lv_at hl 0 rfl) ?_
  refine va_get (D := D) (ci := 4) (v := .int st.2.1.2.2) (C := R_M) (T := T_M) (N := 14) hx hb hts in_M hown hK hP 0 rfl rfl 3 (by decide) (hts _ wm_357) (fun _ h9 => h9) rfl d_M_request_6 ?_
  refine lv_if_eq (tgt := 32) hx hb d_M_request_9 (by decide) (fun h9 => ?_) (fun h9 => ?_)
  · skip
    refine lv_iconst (v := -1) hx hb d_M_request_32 (by decide) ?_
    refine sw_iret (u := (((st.1.1.1, st.1.1.2.1, st.1.1.2.2.1, st.1.1.2.2.2), st.1.2), ((0 : Int32), st.2.1.2.1, st.2.1.2.2), (st.2.2.1, st.2.2.2.1, st.2.2.2.2.1, st.2.2.2.2.2.1, st.2.2.2.2.2.2.1, st.2.2.2.2.2.2.2))) (v := (-1 : Int32)) hx hb hr hlk hK hP hD hS d_M_request_33 rfl ?_
    rw [show mreq st = _ from if_pos (Or.inl h9)]
    exact ⟨rfl, rfl⟩
  · skip
    refine lv_aload_n hx hb d_M_request_12 rfl (lv_at hl 0 rfl) ?_
    refine lv_sipush (v := 208) hx hb d_M_request_13 (by decide) ?_
    obtain ⟨v16, hv16⟩ : ∃ x : Ms, x = (((st.1.1.1, st.1.1.2.1, st.1.1.2.2.1, st.1.1.2.2.2), st.1.2), ((0 : Int32), st.2.1.2.1, st.2.1.2.2), (st.2.2.1, st.2.2.2.1, st.2.2.2.2.1, st.2.2.2.2.2.1, st.2.2.2.2.2.2.1, st.2.2.2.2.2.2.2)) := ⟨_, rfl⟩
    have hP : va_P D vwC (MW cA aM aG v16) H := by rw [hv16]; exact hP
    have hD : va_D A (MW cA aM aG v16) := by rw [hv16]; exact hD
    refine sw_callVi (rest := []) 0 4 [.int (nI 208)] hx hb hml hown hts hK hN hA hP hD hS (k_M_asks l D cA aM aG v16 _ 208 (by omega)) cw_M_76 rfl rfl rfl ⟨Nat.le_of_ble_eq_true rfl, Nat.le_of_ble_eq_true rfl⟩ hl.1 rfl rfl (Nat.le_of_ble_eq_true rfl) d_M_request_16 (fun r16 u16 H locs hq16 hP hD hS => ?_)
    obtain ⟨hr16, hq16⟩ := hq16
    rw [hr16]
    rw [hq16] at hP hD
    refine sw_bz_ne (tgt := 32) hx hb d_M_request_19 (by decide) (fun h19 => ?_) (fun h19 => ?_)
    · skip
      refine lv_iconst (v := -1) hx hb d_M_request_32 (by decide) ?_
      refine sw_iret (u := v16) (v := (-1 : Int32)) hx hb hr hlk hK hP hD hS d_M_request_33 rfl ?_
      subst hv16
      rw [show mreq st = _ from if_pos (Or.inr (Or.inl h19))]
      exact ⟨rfl, rfl⟩
    · skip
      refine lv_aload_n hx hb d_M_request_22 rfl (lv_at hl 0 rfl) ?_
      refine lv_sipush (v := 224) hx hb d_M_request_23 (by decide) ?_
      refine sw_callVi (rest := []) 0 4 [.int (nI 224)] hx hb hml hown hts hK hN hA hP hD hS (k_M_asks l D cA aM aG v16 _ 224 (by omega)) cw_M_76 rfl rfl rfl ⟨Nat.le_of_ble_eq_true rfl, Nat.le_of_ble_eq_true rfl⟩ hl.1 rfl rfl (Nat.le_of_ble_eq_true rfl) d_M_request_26 (fun r26 u26 H locs hq26 hP hD hS => ?_)
      obtain ⟨hr26, hq26⟩ := hq26
      rw [hr26]
      rw [hq26] at hP hD
      refine sw_bz_eq (tgt := 34) hx hb d_M_request_29 (by decide) (fun h29 => ?_) (fun h29 => ?_)
      · skip
        refine lv_aload_n hx hb d_M_request_34 rfl (lv_at hl 0 rfl) ?_
        refine lv_bipush (v := 96) hx hb d_M_request_35 (by decide) ?_
        refine sw_callVi (rest := []) 0 4 [.int (nI 96)] hx hb hml hown hts hK hN hA hP hD hS (k_M_image l D cA aM aG v16 _ 96 (by omega)) cw_M_92 rfl rfl rfl ⟨Nat.le_of_ble_eq_true rfl, Nat.le_of_ble_eq_true rfl⟩ hl.1 rfl rfl (Nat.le_of_ble_eq_true rfl) d_M_request_37 (fun r37 u37 H locs hq37 hP hD hS => ?_)
        obtain ⟨hr37, hq37⟩ := hq37
        rw [hr37]
        rw [hq37] at hP hD
        refine lv_if_ne (tgt := 45) hx hb d_M_request_40 (by decide) (fun h40 => ?_) (fun h40 => ?_)
        · skip
          refine lv_aload_n hx hb d_M_request_45 rfl (lv_at hl 0 rfl) ?_
          refine lv_iconst (v := 0) hx hb d_M_request_46 (by decide) ?_
          refine va_put (D := D) (ci := 4) (v := .int (0 : Int32)) (ty := .boolean) (C := R_M) (T := T_M) (N := 14) hx hb hts in_M ty_M ty_M_ok nm_M hown hK hP hD hS 0 rfl rfl 5 (by decide) (hts _ wm_359) (fun _ h9 => h9) rfl (ty_M_ok 5 (by decide)) rfl rfl (Nat.le_of_ble_eq_true rfl) d_M_request_47 (fun H locs hP hD hS => ?_)
          have hP : va_P D vwC (MW cA aM aG (((v16.1.1.1, v16.1.1.2.1, v16.1.1.2.2.1, v16.1.1.2.2.2), false), (v16.2.1.1, v16.2.1.2.1, v16.2.1.2.2), (v16.2.2.1, v16.2.2.2.1, v16.2.2.2.2.1, v16.2.2.2.2.2.1, v16.2.2.2.2.2.2.1, v16.2.2.2.2.2.2.2))) H := hP
          have hD : va_D A (MW cA aM aG (((v16.1.1.1, v16.1.1.2.1, v16.1.1.2.2.1, v16.1.1.2.2.2), false), (v16.2.1.1, v16.2.1.2.1, v16.2.1.2.2), (v16.2.2.1, v16.2.2.2.1, v16.2.2.2.2.1, v16.2.2.2.2.2.1, v16.2.2.2.2.2.2.1, v16.2.2.2.2.2.2.2))) := hD
          refine lv_aload_n hx hb d_M_request_50 rfl (lv_at hl 0 rfl) ?_
          refine lv_sipush (v := 208) hx hb d_M_request_51 (by decide) ?_
          refine lv_bipush (v := 15) hx hb d_M_request_54 (by decide) ?_
          obtain ⟨v56, hv56⟩ : ∃ x : Ms, x = (((v16.1.1.1, v16.1.1.2.1, v16.1.1.2.2.1, v16.1.1.2.2.2), false), (v16.2.1.1, v16.2.1.2.1, v16.2.1.2.2), (v16.2.2.1, v16.2.2.2.1, v16.2.2.2.2.1, v16.2.2.2.2.2.1, v16.2.2.2.2.2.2.1, v16.2.2.2.2.2.2.2)) := ⟨_, rfl⟩
          have hP : va_P D vwC (MW cA aM aG v56) H := by rw [hv56]; exact hP
          have hD : va_D A (MW cA aM aG v56) := by rw [hv56]; exact hD
          refine sw_callVv (rest := []) 0 4 [.int (nI 208), .int (15 : Int32)] hx hb hml hown hts hK hN hA hP hD hS (k_M_write l D cA aM aG v56 _ 208 (15 : Int32) (by omega)) cw_M_69 rfl rfl rfl ⟨Nat.le_of_ble_eq_true rfl, Nat.le_of_ble_eq_true rfl⟩ hl.1 rfl rfl (Nat.le_of_ble_eq_true rfl) d_M_request_56 (fun u56 H locs hq56 hP hD hS => ?_)
          have hu56 : u56 = (pwrite 208 (15 : Int32) v56.1, v56.2) := hq56
          refine lv_aload_n hx hb d_M_request_59 rfl (lv_at hl 0 rfl) ?_
          refine lv_iconst (v := 1) hx hb d_M_request_60 (by decide) ?_
          refine sw_callVi (rest := []) 0 4 [.int (1 : Int32)] hx hb hml hown hts hK hN hA hP hD hS (k_M_answer l D cA aM aG u56 _ (1 : Int32)) cw_M_98 rfl rfl rfl ⟨Nat.le_of_ble_eq_true rfl, Nat.le_of_ble_eq_true rfl⟩ hl.1 rfl rfl (Nat.le_of_ble_eq_true rfl) d_M_request_61 (fun r61 u61 H locs hq61 hP hD hS => ?_)
          obtain ⟨hr61, hu61⟩ := hq61
          rw [hr61]
          refine sw_iret (u := u61) (v := ((mans (1 : Int32) u56).1)) hx hb hr hlk hK hP hD hS d_M_request_64 rfl ?_
          subst hu56
          subst hv56
          subst hv16
          rw [show mreq st = _ from (if_neg (fun q => q.elim h9 (fun q => q.elim (fun q => by rw [h19] at q; cases q) (fun q => by rw [h29] at q; cases q)))).trans (if_neg h40)]
          exact ⟨rfl, hu61⟩
        · skip
          refine lv_iconst (v := 0) hx hb d_M_request_43 (by decide) ?_
          refine sw_iret (u := v16) (v := (0 : Int32)) hx hb hr hlk hK hP hD hS d_M_request_44 rfl ?_
          subst hv16
          rw [show mreq st = _ from (if_neg (fun q => q.elim h9 (fun q => q.elim (fun q => by rw [h19] at q; cases q) (fun q => by rw [h29] at q; cases q)))).trans (if_pos h40)]
          exact ⟨rfl, rfl⟩
      · skip
        refine lv_iconst (v := -1) hx hb d_M_request_32 (by decide) ?_
        refine sw_iret (u := v16) (v := (-1 : Int32)) hx hb hr hlk hK hP hD hS d_M_request_33 rfl ?_
        subst hv16
        rw [show mreq st = _ from if_pos (Or.inr (Or.inr h29))]
        exact ⟨rfl, rfl⟩
set_option maxHeartbeats 4000000 in
set_option maxRecDepth 100000 in
theorem k_M_confirm (l : Launch) (D : va_G) (cA : ClassId) (aM aG : Nat) (st : Ms) (sz : Nat) : Ci l y_M_confirm b_M_confirm 1 (some .int) 2 D cA (MW cA aM aG) st sz [.ref aM] (fun r u => r = (mcon st).1 ∧ u = (mcon st).2) := by
  refine Ci.enter (by decide) (Nat.le_of_ble_eq_true rfl) ?_
  intro pr en s0 m0 ar bl me co A ls hx hb hml hr hlk hown hts hK hN hA hP hD hS hl
  have hl : lv_has ls 1 [(0, .ref aM)] := hl
  have hown : s0.vm.findClass R_M = some m0.cls := hown
  refine lv_aload_n hx hb d_M_confirm_0 rfl (lv_at hl 0 rfl) ?_
  refine lv_iconst (v := 0) hx hb d_M_confirm_1 (by decide) ?_
  refine va_put (D := D) (ci := 4) (v := .int (0 : Int32)) (ty := .int) (C := R_M) (T := T_M) (N := 14) hx hb hts in_M ty_M ty_M_ok nm_M hown hK hP hD hS 0 rfl rfl 0 (by decide) (hts _ wm_354) (fun _ h9 => h9) rfl (ty_M_ok 0 (by decide)) rfl rfl (Nat.le_of_ble_eq_true rfl) d_M_confirm_2 (fun H locs hP hD hS => ?_)
  have hP : va_P D vwC (MW cA aM aG (((st.1.1.1, st.1.1.2.1, st.1.1.2.2.1, st.1.1.2.2.2), st.1.2), ((0 : Int32), st.2.1.2.1, st.2.1.2.2), (st.2.2.1, st.2.2.2.1, st.2.2.2.2.1, st.2.2.2.2.2.1, st.2.2.2.2.2.2.1, st.2.2.2.2.2.2.2))) H := hP
  have hD : va_D A (MW cA aM aG (((st.1.1.1, st.1.1.2.1, st.1.1.2.2.1, st.1.1.2.2.2), st.1.2), ((0 : Int32), st.2.1.2.1, st.2.1.2.2), (st.2.2.1, st.2.2.2.1, st.2.2.2.2.1, st.2.2.2.2.2.1, st.2.2.2.2.2.2.1, st.2.2.2.2.2.2.2))) := hD
  refine lv_aload_n hx hb d_M_confirm_5 rfl (lv_at hl 0 rfl) ?_
  refine va_get (D := D) (ci := 4) (v := .int st.2.1.2.2) (C := R_M) (T := T_M) (N := 14) hx hb hts in_M hown hK hP 0 rfl rfl 3 (by decide) (hts _ wm_357) (fun _ h9 => h9) rfl d_M_confirm_6 ?_
  refine lv_if_eq (tgt := 28) hx hb d_M_confirm_9 (by decide) (fun h9 => ?_) (fun h9 => ?_)
  · skip
    refine lv_iconst (v := -1) hx hb d_M_confirm_28 (by decide) ?_
    refine sw_iret (u := (((st.1.1.1, st.1.1.2.1, st.1.1.2.2.1, st.1.1.2.2.2), st.1.2), ((0 : Int32), st.2.1.2.1, st.2.1.2.2), (st.2.2.1, st.2.2.2.1, st.2.2.2.2.1, st.2.2.2.2.2.1, st.2.2.2.2.2.2.1, st.2.2.2.2.2.2.2))) (v := (-1 : Int32)) hx hb hr hlk hK hP hD hS d_M_confirm_29 rfl ?_
    rw [show mcon st = _ from if_pos (Or.inl h9)]
    exact ⟨rfl, rfl⟩
  · skip
    refine lv_aload_n hx hb d_M_confirm_12 rfl (lv_at hl 0 rfl) ?_
    refine lv_iconst (v := 1) hx hb d_M_confirm_13 (by decide) ?_
    obtain ⟨v14, hv14⟩ : ∃ x : Ms, x = (((st.1.1.1, st.1.1.2.1, st.1.1.2.2.1, st.1.1.2.2.2), st.1.2), ((0 : Int32), st.2.1.2.1, st.2.1.2.2), (st.2.2.1, st.2.2.2.1, st.2.2.2.2.1, st.2.2.2.2.2.1, st.2.2.2.2.2.2.1, st.2.2.2.2.2.2.2)) := ⟨_, rfl⟩
    have hP : va_P D vwC (MW cA aM aG v14) H := by rw [hv14]; exact hP
    have hD : va_D A (MW cA aM aG v14) := by rw [hv14]; exact hD
    refine sw_callVi (rest := []) 0 4 [.int (nI 1)] hx hb hml hown hts hK hN hA hP hD hS (k_M_isSet l D cA aM aG v14 _ 1 (by omega)) cw_M_85 rfl rfl rfl ⟨Nat.le_of_ble_eq_true rfl, Nat.le_of_ble_eq_true rfl⟩ hl.1 rfl rfl (Nat.le_of_ble_eq_true rfl) d_M_confirm_14 (fun r14 u14 H locs hq14 hP hD hS => ?_)
    obtain ⟨hr14, hq14⟩ := hq14
    rw [hr14]
    rw [hq14] at hP hD
    refine sw_bz_eq (tgt := 28) hx hb d_M_confirm_17 (by decide) (fun h17 => ?_) (fun h17 => ?_)
    · skip
      refine lv_iconst (v := -1) hx hb d_M_confirm_28 (by decide) ?_
      refine sw_iret (u := v14) (v := (-1 : Int32)) hx hb hr hlk hK hP hD hS d_M_confirm_29 rfl ?_
      subst hv14
      rw [show mcon st = _ from if_pos (Or.inr (Or.inl h17))]
      exact ⟨rfl, rfl⟩
    · skip
      refine lv_aload_n hx hb d_M_confirm_20 rfl (lv_at hl 0 rfl) ?_
      refine lv_iconst (v := 2) hx hb d_M_confirm_21 (by decide) ?_
      refine sw_callVi (rest := []) 0 4 [.int (nI 2)] hx hb hml hown hts hK hN hA hP hD hS (k_M_isSet l D cA aM aG v14 _ 2 (by omega)) cw_M_85 rfl rfl rfl ⟨Nat.le_of_ble_eq_true rfl, Nat.le_of_ble_eq_true rfl⟩ hl.1 rfl rfl (Nat.le_of_ble_eq_true rfl) d_M_confirm_22 (fun r22 u22 H locs hq22 hP hD hS => ?_)
      obtain ⟨hr22, hq22⟩ := hq22
      rw [hr22]
      rw [hq22] at hP hD
      refine sw_bz_eq (tgt := 30) hx hb d_M_confirm_25 (by decide) (fun h25 => ?_) (fun h25 => ?_)
      · skip
        refine lv_aload_n hx hb d_M_confirm_30 rfl (lv_at hl 0 rfl) ?_
        refine lv_iconst (v := 0) hx hb d_M_confirm_31 (by decide) ?_
        refine va_put (D := D) (ci := 4) (v := .int (0 : Int32)) (ty := .boolean) (C := R_M) (T := T_M) (N := 14) hx hb hts in_M ty_M ty_M_ok nm_M hown hK hP hD hS 0 rfl rfl 5 (by decide) (hts _ wm_359) (fun _ h9 => h9) rfl (ty_M_ok 5 (by decide)) rfl rfl (Nat.le_of_ble_eq_true rfl) d_M_confirm_32 (fun H locs hP hD hS => ?_)
        have hP : va_P D vwC (MW cA aM aG (((v14.1.1.1, v14.1.1.2.1, v14.1.1.2.2.1, v14.1.1.2.2.2), false), (v14.2.1.1, v14.2.1.2.1, v14.2.1.2.2), (v14.2.2.1, v14.2.2.2.1, v14.2.2.2.2.1, v14.2.2.2.2.2.1, v14.2.2.2.2.2.2.1, v14.2.2.2.2.2.2.2))) H := hP
        have hD : va_D A (MW cA aM aG (((v14.1.1.1, v14.1.1.2.1, v14.1.1.2.2.1, v14.1.1.2.2.2), false), (v14.2.1.1, v14.2.1.2.1, v14.2.1.2.2), (v14.2.2.1, v14.2.2.2.1, v14.2.2.2.2.1, v14.2.2.2.2.2.1, v14.2.2.2.2.2.2.1, v14.2.2.2.2.2.2.2))) := hD
        refine lv_aload_n hx hb d_M_confirm_35 rfl (lv_at hl 0 rfl) ?_
        refine lv_sipush (v := 210) hx hb d_M_confirm_36 (by decide) ?_
        refine lv_iconst (v := 0) hx hb d_M_confirm_39 (by decide) ?_
        obtain ⟨v40, hv40⟩ : ∃ x : Ms, x = (((v14.1.1.1, v14.1.1.2.1, v14.1.1.2.2.1, v14.1.1.2.2.2), false), (v14.2.1.1, v14.2.1.2.1, v14.2.1.2.2), (v14.2.2.1, v14.2.2.2.1, v14.2.2.2.2.1, v14.2.2.2.2.2.1, v14.2.2.2.2.2.2.1, v14.2.2.2.2.2.2.2)) := ⟨_, rfl⟩
        have hP : va_P D vwC (MW cA aM aG v40) H := by rw [hv40]; exact hP
        have hD : va_D A (MW cA aM aG v40) := by rw [hv40]; exact hD
        refine sw_callVv (rest := []) 0 4 [.int (nI 210), .int (0 : Int32)] hx hb hml hown hts hK hN hA hP hD hS (k_M_write l D cA aM aG v40 _ 210 (0 : Int32) (by omega)) cw_M_69 rfl rfl rfl ⟨Nat.le_of_ble_eq_true rfl, Nat.le_of_ble_eq_true rfl⟩ hl.1 rfl rfl (Nat.le_of_ble_eq_true rfl) d_M_confirm_40 (fun u40 H locs hq40 hP hD hS => ?_)
        have hu40 : u40 = (pwrite 210 (0 : Int32) v40.1, v40.2) := hq40
        refine lv_aload_n hx hb d_M_confirm_43 rfl (lv_at hl 0 rfl) ?_
        refine lv_iconst (v := 1) hx hb d_M_confirm_44 (by decide) ?_
        refine sw_callVi (rest := []) 0 4 [.int (1 : Int32)] hx hb hml hown hts hK hN hA hP hD hS (k_M_answer l D cA aM aG u40 _ (1 : Int32)) cw_M_98 rfl rfl rfl ⟨Nat.le_of_ble_eq_true rfl, Nat.le_of_ble_eq_true rfl⟩ hl.1 rfl rfl (Nat.le_of_ble_eq_true rfl) d_M_confirm_45 (fun r45 u45 H locs hq45 hP hD hS => ?_)
        obtain ⟨hr45, hu45⟩ := hq45
        rw [hr45]
        refine sw_iret (u := u45) (v := ((mans (1 : Int32) u40).1)) hx hb hr hlk hK hP hD hS d_M_confirm_48 rfl ?_
        subst hu40
        subst hv40
        subst hv14
        rw [show mcon st = _ from (if_neg (fun q => q.elim h9 (fun q => q.elim (fun q => by rw [h17] at q; cases q) (fun q => by rw [h25] at q; cases q))))]
        exact ⟨rfl, hu45⟩
      · skip
        refine lv_iconst (v := -1) hx hb d_M_confirm_28 (by decide) ?_
        refine sw_iret (u := v14) (v := (-1 : Int32)) hx hb hr hlk hK hP hD hS d_M_confirm_29 rfl ?_
        subst hv14
        rw [show mcon st = _ from if_pos (Or.inr (Or.inr h25))]
        exact ⟨rfl, rfl⟩
set_option maxHeartbeats 4000000 in
set_option maxRecDepth 100000 in
theorem k_M_version (l : Launch) (D : va_G) (cA : ClassId) (aM aG : Nat) (st : Ms) (sz : Nat) (w : Int32) : Ci l y_M_version b_M_version 2 (some .int) 2 D cA (MW cA aM aG) st sz [.ref aM, .int w] (fun r u => r = mver w st.1.1.1 ∧ u = mr0 st) := by
  refine Ci.enter (by decide) (Nat.le_of_ble_eq_true rfl) ?_
  intro pr en s0 m0 ar bl me co A ls hx hb hml hr hlk hown hts hK hN hA hP hD hS hl
  have hl : lv_has ls 2 [(0, .ref aM), (1, .int w)] := hl
  have hown : s0.vm.findClass R_M = some m0.cls := hown
  refine lv_aload_n hx hb d_M_version_0 rfl (lv_at hl 0 rfl) ?_
  refine lv_iconst (v := 0) hx hb d_M_version_1 (by decide) ?_
  refine va_put (D := D) (ci := 4) (v := .int (0 : Int32)) (ty := .int) (C := R_M) (T := T_M) (N := 14) hx hb hts in_M ty_M ty_M_ok nm_M hown hK hP hD hS 0 rfl rfl 0 (by decide) (hts _ wm_354) (fun _ h9 => h9) rfl (ty_M_ok 0 (by decide)) rfl rfl (Nat.le_of_ble_eq_true rfl) d_M_version_2 (fun H locs hP hD hS => ?_)
  have hP : va_P D vwC (MW cA aM aG (((st.1.1.1, st.1.1.2.1, st.1.1.2.2.1, st.1.1.2.2.2), st.1.2), ((0 : Int32), st.2.1.2.1, st.2.1.2.2), (st.2.2.1, st.2.2.2.1, st.2.2.2.2.1, st.2.2.2.2.2.1, st.2.2.2.2.2.2.1, st.2.2.2.2.2.2.2))) H := hP
  have hD : va_D A (MW cA aM aG (((st.1.1.1, st.1.1.2.1, st.1.1.2.2.1, st.1.1.2.2.2), st.1.2), ((0 : Int32), st.2.1.2.1, st.2.1.2.2), (st.2.2.1, st.2.2.2.1, st.2.2.2.2.1, st.2.2.2.2.2.1, st.2.2.2.2.2.2.1, st.2.2.2.2.2.2.2))) := hD
  refine lv_iload_n hx hb d_M_version_5 rfl (lv_at hl 1 rfl) ?_
  refine lv_if_ne (tgt := 17) hx hb d_M_version_6 (by decide) (fun h6 => ?_) (fun h6 => ?_)
  · skip
    refine lv_iload_n hx hb d_M_version_17 rfl (lv_at hl 1 rfl) ?_
    refine lv_iconst (v := 1) hx hb d_M_version_18 (by decide) ?_
    refine lv_icmp_ne (tgt := 31) hx hb d_M_version_19 (by decide) (fun h19 => ?_) (fun h19 => ?_)
    · skip
      refine lv_iconst (v := -1) hx hb d_M_version_31 (by decide) ?_
      refine sw_iret (u := (((st.1.1.1, st.1.1.2.1, st.1.1.2.2.1, st.1.1.2.2.2), st.1.2), ((0 : Int32), st.2.1.2.1, st.2.1.2.2), (st.2.2.1, st.2.2.2.1, st.2.2.2.2.1, st.2.2.2.2.2.1, st.2.2.2.2.2.2.1, st.2.2.2.2.2.2.2))) (v := (-1 : Int32)) hx hb hr hlk hK hP hD hS d_M_version_32 rfl ?_
      exact ⟨(show mver w st.1.1.1 = _ from (if_neg h6).trans (if_neg h19)).symm, rfl⟩
    · skip
      refine lv_aload_n hx hb d_M_version_22 rfl (lv_at hl 0 rfl) ?_
      refine lv_bipush (v := 96) hx hb d_M_version_23 (by decide) ?_
      obtain ⟨v25, hv25⟩ : ∃ x : Ms, x = (((st.1.1.1, st.1.1.2.1, st.1.1.2.2.1, st.1.1.2.2.2), st.1.2), ((0 : Int32), st.2.1.2.1, st.2.1.2.2), (st.2.2.1, st.2.2.2.1, st.2.2.2.2.1, st.2.2.2.2.2.1, st.2.2.2.2.2.2.1, st.2.2.2.2.2.2.2)) := ⟨_, rfl⟩
      have hP : va_P D vwC (MW cA aM aG v25) H := by rw [hv25]; exact hP
      have hD : va_D A (MW cA aM aG v25) := by rw [hv25]; exact hD
      refine sw_callVi (rest := []) 0 4 [.int (nI 96)] hx hb hml hown hts hK hN hA hP hD hS (k_M_image l D cA aM aG v25 _ 96 (by omega)) cw_M_92 rfl rfl rfl ⟨Nat.le_of_ble_eq_true rfl, Nat.le_of_ble_eq_true rfl⟩ hl.1 rfl rfl (Nat.le_of_ble_eq_true rfl) d_M_version_25 (fun r25 u25 H locs hq25 hP hD hS => ?_)
      obtain ⟨hr25, hq25⟩ := hq25
      rw [hr25]
      rw [hq25] at hP hD
      refine lv_goto (tgt := 32) hx hb d_M_version_28 (by decide) ?_
      refine sw_iret (u := v25) (v := (pimg v25.1.1.1 96)) hx hb hr hlk hK hP hD hS d_M_version_32 rfl ?_
      subst hv25
      exact ⟨(show mver w st.1.1.1 = _ from (if_neg h6).trans (if_pos h19)).symm, rfl⟩
  · skip
    refine lv_aload_n hx hb d_M_version_9 rfl (lv_at hl 0 rfl) ?_
    refine lv_iconst (v := 0) hx hb d_M_version_10 (by decide) ?_
    obtain ⟨v11, hv11⟩ : ∃ x : Ms, x = (((st.1.1.1, st.1.1.2.1, st.1.1.2.2.1, st.1.1.2.2.2), st.1.2), ((0 : Int32), st.2.1.2.1, st.2.1.2.2), (st.2.2.1, st.2.2.2.1, st.2.2.2.2.1, st.2.2.2.2.2.1, st.2.2.2.2.2.2.1, st.2.2.2.2.2.2.2)) := ⟨_, rfl⟩
    have hP : va_P D vwC (MW cA aM aG v11) H := by rw [hv11]; exact hP
    have hD : va_D A (MW cA aM aG v11) := by rw [hv11]; exact hD
    refine sw_callVi (rest := []) 0 4 [.int (nI 0)] hx hb hml hown hts hK hN hA hP hD hS (k_M_image l D cA aM aG v11 _ 0 (by omega)) cw_M_92 rfl rfl rfl ⟨Nat.le_of_ble_eq_true rfl, Nat.le_of_ble_eq_true rfl⟩ hl.1 rfl rfl (Nat.le_of_ble_eq_true rfl) d_M_version_11 (fun r11 u11 H locs hq11 hP hD hS => ?_)
    obtain ⟨hr11, hq11⟩ := hq11
    rw [hr11]
    rw [hq11] at hP hD
    refine lv_goto (tgt := 32) hx hb d_M_version_14 (by decide) ?_
    refine sw_iret (u := v11) (v := (pimg v11.1.1.1 0)) hx hb hr hlk hK hP hD hS d_M_version_32 rfl ?_
    subst hv11
    exact ⟨(show mver w st.1.1.1 = _ from if_pos h6).symm, rfl⟩
set_option maxHeartbeats 4000000 in
set_option maxRecDepth 100000 in
theorem k_M_state (l : Launch) (D : va_G) (cA : ClassId) (aM aG : Nat) (st : Ms) (sz : Nat) (w : Int32) : Ci l y_M_state b_M_state 2 (some .int) 2 D cA (MW cA aM aG) st sz [.ref aM, .int w] (fun r u => r = mstate w st ∧ u = mr0 st) := by
  refine Ci.enter (by decide) (Nat.le_of_ble_eq_true rfl) ?_
  intro pr en s0 m0 ar bl me co A ls hx hb hml hr hlk hown hts hK hN hA hP hD hS hl
  have hl : lv_has ls 2 [(0, .ref aM), (1, .int w)] := hl
  have hown : s0.vm.findClass R_M = some m0.cls := hown
  refine lv_aload_n hx hb d_M_state_0 rfl (lv_at hl 0 rfl) ?_
  refine lv_iconst (v := 0) hx hb d_M_state_1 (by decide) ?_
  refine va_put (D := D) (ci := 4) (v := .int (0 : Int32)) (ty := .int) (C := R_M) (T := T_M) (N := 14) hx hb hts in_M ty_M ty_M_ok nm_M hown hK hP hD hS 0 rfl rfl 0 (by decide) (hts _ wm_354) (fun _ h9 => h9) rfl (ty_M_ok 0 (by decide)) rfl rfl (Nat.le_of_ble_eq_true rfl) d_M_state_2 (fun H locs hP hD hS => ?_)
  have hP : va_P D vwC (MW cA aM aG (((st.1.1.1, st.1.1.2.1, st.1.1.2.2.1, st.1.1.2.2.2), st.1.2), ((0 : Int32), st.2.1.2.1, st.2.1.2.2), (st.2.2.1, st.2.2.2.1, st.2.2.2.2.1, st.2.2.2.2.2.1, st.2.2.2.2.2.2.1, st.2.2.2.2.2.2.2))) H := hP
  have hD : va_D A (MW cA aM aG (((st.1.1.1, st.1.1.2.1, st.1.1.2.2.1, st.1.1.2.2.2), st.1.2), ((0 : Int32), st.2.1.2.1, st.2.1.2.2), (st.2.2.1, st.2.2.2.1, st.2.2.2.2.1, st.2.2.2.2.2.1, st.2.2.2.2.2.2.1, st.2.2.2.2.2.2.2))) := hD
  refine lv_iload_n hx hb d_M_state_5 rfl (lv_at hl 1 rfl) ?_
  rcases s8_split w with h0 | h0 | h0 | h0 | h0 | h0 | h0 | h0 | h0
  · skip
    refine sw_tp (y := 0) h0 ?_
    refine lv_tableIn (tgt := 52) (off := 46) hx hb d_M_state_6 (by decide) (by decide) (by decide) (by decide) ?_
    refine lv_aload_n hx hb d_M_state_52 rfl (lv_at hl 0 rfl) ?_
    refine va_get (D := D) (ci := 4) (v := .int (b2i (st.2.1.2.1))) (C := R_M) (T := T_M) (N := 14) hx hb hts in_M hown hK hP 0 rfl rfl 2 (by decide) (hts _ wm_356) (fun _ h9 => h9) rfl d_M_state_53 ?_
    refine sw_bz_eq (tgt := 63) hx hb d_M_state_56 (by decide) (fun h56 => ?_) (fun h56 => ?_)
    · skip
      refine lv_iconst (v := 0) hx hb d_M_state_63 (by decide) ?_
      refine sw_iret (u := (((st.1.1.1, st.1.1.2.1, st.1.1.2.2.1, st.1.1.2.2.2), st.1.2), ((0 : Int32), st.2.1.2.1, st.2.1.2.2), (st.2.2.1, st.2.2.2.1, st.2.2.2.2.1, st.2.2.2.2.2.1, st.2.2.2.2.2.2.1, st.2.2.2.2.2.2.2))) (v := (0 : Int32)) hx hb hr hlk hK hP hD hS d_M_state_64 rfl ?_
      rw [show mstate w st = _ from if_pos h0]
      refine ⟨?_, rfl⟩
      rw [h56]
      rfl
    · skip
      refine lv_iconst (v := 1) hx hb d_M_state_59 (by decide) ?_
      refine lv_goto (tgt := 64) hx hb d_M_state_60 (by decide) ?_
      refine sw_iret (u := (((st.1.1.1, st.1.1.2.1, st.1.1.2.2.1, st.1.1.2.2.2), st.1.2), ((0 : Int32), st.2.1.2.1, st.2.1.2.2), (st.2.2.1, st.2.2.2.1, st.2.2.2.2.1, st.2.2.2.2.2.1, st.2.2.2.2.2.2.1, st.2.2.2.2.2.2.2))) (v := (1 : Int32)) hx hb hr hlk hK hP hD hS d_M_state_64 rfl ?_
      rw [show mstate w st = _ from if_pos h0]
      refine ⟨?_, rfl⟩
      rw [h56]
      rfl
  · skip
    refine sw_tp (y := 1) h0 ?_
    refine lv_tableIn (tgt := 65) (off := 59) hx hb d_M_state_6 (by decide) (by decide) (by decide) (by decide) ?_
    refine lv_aload_n hx hb d_M_state_65 rfl (lv_at hl 0 rfl) ?_
    refine va_get (D := D) (ci := 4) (v := .int st.2.1.2.2) (C := R_M) (T := T_M) (N := 14) hx hb hts in_M hown hK hP 0 rfl rfl 3 (by decide) (hts _ wm_357) (fun _ h9 => h9) rfl d_M_state_66 ?_
    refine sw_iret (u := (((st.1.1.1, st.1.1.2.1, st.1.1.2.2.1, st.1.1.2.2.2), st.1.2), ((0 : Int32), st.2.1.2.1, st.2.1.2.2), (st.2.2.1, st.2.2.2.1, st.2.2.2.2.1, st.2.2.2.2.2.1, st.2.2.2.2.2.2.1, st.2.2.2.2.2.2.2))) (v := st.2.1.2.2) hx hb hr hlk hK hP hD hS d_M_state_69 rfl ?_
    exact ⟨(show mstate w st = _ from (if_neg (by rw [h0]; decide)).trans (if_pos h0)).symm, rfl⟩
  · skip
    refine sw_tp (y := 2) h0 ?_
    refine lv_tableIn (tgt := 70) (off := 64) hx hb d_M_state_6 (by decide) (by decide) (by decide) (by decide) ?_
    refine lv_aload_n hx hb d_M_state_70 rfl (lv_at hl 0 rfl) ?_
    refine va_get (D := D) (ci := 4) (v := .int st.2.2.2.2.1) (C := R_M) (T := T_M) (N := 14) hx hb hts in_M hown hK hP 0 rfl rfl 8 (by decide) (hts _ wm_362) (fun _ h9 => h9) rfl d_M_state_71 ?_
    refine sw_iret (u := (((st.1.1.1, st.1.1.2.1, st.1.1.2.2.1, st.1.1.2.2.2), st.1.2), ((0 : Int32), st.2.1.2.1, st.2.1.2.2), (st.2.2.1, st.2.2.2.1, st.2.2.2.2.1, st.2.2.2.2.2.1, st.2.2.2.2.2.2.1, st.2.2.2.2.2.2.2))) (v := st.2.2.2.2.1) hx hb hr hlk hK hP hD hS d_M_state_74 rfl ?_
    exact ⟨(show mstate w st = _ from (if_neg (by rw [h0]; decide)).trans ((if_neg (by rw [h0]; decide)).trans (if_pos h0))).symm, rfl⟩
  · skip
    refine sw_tp (y := 3) h0 ?_
    refine lv_tableIn (tgt := 75) (off := 69) hx hb d_M_state_6 (by decide) (by decide) (by decide) (by decide) ?_
    refine lv_aload_n hx hb d_M_state_75 rfl (lv_at hl 0 rfl) ?_
    refine va_get (D := D) (ci := 4) (v := .int st.2.2.2.2.2.1) (C := R_M) (T := T_M) (N := 14) hx hb hts in_M hown hK hP 0 rfl rfl 11 (by decide) (hts _ wm_365) (fun _ h9 => h9) rfl d_M_state_76 ?_
    refine sw_iret (u := (((st.1.1.1, st.1.1.2.1, st.1.1.2.2.1, st.1.1.2.2.2), st.1.2), ((0 : Int32), st.2.1.2.1, st.2.1.2.2), (st.2.2.1, st.2.2.2.1, st.2.2.2.2.1, st.2.2.2.2.2.1, st.2.2.2.2.2.2.1, st.2.2.2.2.2.2.2))) (v := st.2.2.2.2.2.1) hx hb hr hlk hK hP hD hS d_M_state_79 rfl ?_
    exact ⟨(show mstate w st = _ from (if_neg (by rw [h0]; decide)).trans ((if_neg (by rw [h0]; decide)).trans ((if_neg (by rw [h0]; decide)).trans (if_pos h0)))).symm, rfl⟩
  · skip
    refine sw_tp (y := 4) h0 ?_
    refine lv_tableIn (tgt := 80) (off := 74) hx hb d_M_state_6 (by decide) (by decide) (by decide) (by decide) ?_
    refine lv_aload_n hx hb d_M_state_80 rfl (lv_at hl 0 rfl) ?_
    refine lv_sipush (v := 208) hx hb d_M_state_81 (by decide) ?_
    obtain ⟨v84, hv84⟩ : ∃ x : Ms, x = (((st.1.1.1, st.1.1.2.1, st.1.1.2.2.1, st.1.1.2.2.2), st.1.2), ((0 : Int32), st.2.1.2.1, st.2.1.2.2), (st.2.2.1, st.2.2.2.1, st.2.2.2.2.1, st.2.2.2.2.2.1, st.2.2.2.2.2.2.1, st.2.2.2.2.2.2.2)) := ⟨_, rfl⟩
    have hP : va_P D vwC (MW cA aM aG v84) H := by rw [hv84]; exact hP
    have hD : va_D A (MW cA aM aG v84) := by rw [hv84]; exact hD
    refine sw_callVi (rest := []) 0 4 [.int (nI 208)] hx hb hml hown hts hK hN hA hP hD hS (k_M_stepsDone l D cA aM aG v84 _ 13 (by omega)) cw_M_88 rfl rfl rfl ⟨Nat.le_of_ble_eq_true rfl, Nat.le_of_ble_eq_true rfl⟩ hl.1 rfl rfl (Nat.le_of_ble_eq_true rfl) d_M_state_84 (fun r84 u84 H locs hq84 hP hD hS => ?_)
    obtain ⟨hr84, hq84⟩ := hq84
    rw [hr84]
    rw [hq84] at hP hD
    refine sw_iret (u := v84) (v := nI (pcnt v84.1.1.1 13 18 0 0)) hx hb hr hlk hK hP hD hS d_M_state_87 rfl ?_
    subst hv84
    exact ⟨(show mstate w st = _ from (if_neg (by rw [h0]; decide)).trans ((if_neg (by rw [h0]; decide)).trans ((if_neg (by rw [h0]; decide)).trans ((if_neg (by rw [h0]; decide)).trans (if_pos h0))))).symm, rfl⟩
  · skip
    refine sw_tp (y := 5) h0 ?_
    refine lv_tableIn (tgt := 88) (off := 82) hx hb d_M_state_6 (by decide) (by decide) (by decide) (by decide) ?_
    refine lv_aload_n hx hb d_M_state_88 rfl (lv_at hl 0 rfl) ?_
    refine lv_sipush (v := 224) hx hb d_M_state_89 (by decide) ?_
    obtain ⟨v92, hv92⟩ : ∃ x : Ms, x = (((st.1.1.1, st.1.1.2.1, st.1.1.2.2.1, st.1.1.2.2.2), st.1.2), ((0 : Int32), st.2.1.2.1, st.2.1.2.2), (st.2.2.1, st.2.2.2.1, st.2.2.2.2.1, st.2.2.2.2.2.1, st.2.2.2.2.2.2.1, st.2.2.2.2.2.2.2)) := ⟨_, rfl⟩
    have hP : va_P D vwC (MW cA aM aG v92) H := by rw [hv92]; exact hP
    have hD : va_D A (MW cA aM aG v92) := by rw [hv92]; exact hD
    refine sw_callVi (rest := []) 0 4 [.int (nI 224)] hx hb hml hown hts hK hN hA hP hD hS (k_M_stepsDone l D cA aM aG v92 _ 14 (by omega)) cw_M_88 rfl rfl rfl ⟨Nat.le_of_ble_eq_true rfl, Nat.le_of_ble_eq_true rfl⟩ hl.1 rfl rfl (Nat.le_of_ble_eq_true rfl) d_M_state_92 (fun r92 u92 H locs hq92 hP hD hS => ?_)
    obtain ⟨hr92, hq92⟩ := hq92
    rw [hr92]
    rw [hq92] at hP hD
    refine sw_iret (u := v92) (v := nI (pcnt v92.1.1.1 14 18 0 0)) hx hb hr hlk hK hP hD hS d_M_state_95 rfl ?_
    subst hv92
    exact ⟨(show mstate w st = _ from (if_neg (by rw [h0]; decide)).trans ((if_neg (by rw [h0]; decide)).trans ((if_neg (by rw [h0]; decide)).trans ((if_neg (by rw [h0]; decide)).trans ((if_neg (by rw [h0]; decide)).trans (if_pos h0)))))).symm, rfl⟩
  · skip
    refine sw_tp (y := 6) h0 ?_
    refine lv_tableIn (tgt := 96) (off := 90) hx hb d_M_state_6 (by decide) (by decide) (by decide) (by decide) ?_
    refine lv_aload_n hx hb d_M_state_96 rfl (lv_at hl 0 rfl) ?_
    refine va_get (D := D) (ci := 4) (v := .int st.1.1.2.2.1) (C := R_M) (T := T_M) (N := 14) hx hb hts in_M hown hK hP 0 rfl rfl 6 (by decide) (hts _ wm_360) (fun _ h9 => h9) rfl d_M_state_97 ?_
    refine sw_iret (u := (((st.1.1.1, st.1.1.2.1, st.1.1.2.2.1, st.1.1.2.2.2), st.1.2), ((0 : Int32), st.2.1.2.1, st.2.1.2.2), (st.2.2.1, st.2.2.2.1, st.2.2.2.2.1, st.2.2.2.2.2.1, st.2.2.2.2.2.2.1, st.2.2.2.2.2.2.2))) (v := st.1.1.2.2.1) hx hb hr hlk hK hP hD hS d_M_state_100 rfl ?_
    exact ⟨(show mstate w st = _ from (if_neg (by rw [h0]; decide)).trans ((if_neg (by rw [h0]; decide)).trans ((if_neg (by rw [h0]; decide)).trans ((if_neg (by rw [h0]; decide)).trans ((if_neg (by rw [h0]; decide)).trans ((if_neg (by rw [h0]; decide)).trans (if_pos h0))))))).symm, rfl⟩
  · skip
    refine sw_tp (y := 7) h0 ?_
    refine lv_tableIn (tgt := 101) (off := 95) hx hb d_M_state_6 (by decide) (by decide) (by decide) (by decide) ?_
    refine lv_aload_n hx hb d_M_state_101 rfl (lv_at hl 0 rfl) ?_
    refine va_get (D := D) (ci := 4) (v := .int st.1.1.2.2.2) (C := R_M) (T := T_M) (N := 14) hx hb hts in_M hown hK hP 0 rfl rfl 7 (by decide) (hts _ wm_361) (fun _ h9 => h9) rfl d_M_state_102 ?_
    refine sw_iret (u := (((st.1.1.1, st.1.1.2.1, st.1.1.2.2.1, st.1.1.2.2.2), st.1.2), ((0 : Int32), st.2.1.2.1, st.2.1.2.2), (st.2.2.1, st.2.2.2.1, st.2.2.2.2.1, st.2.2.2.2.2.1, st.2.2.2.2.2.2.1, st.2.2.2.2.2.2.2))) (v := st.1.1.2.2.2) hx hb hr hlk hK hP hD hS d_M_state_105 rfl ?_
    exact ⟨(show mstate w st = _ from (if_neg (by rw [h0]; decide)).trans ((if_neg (by rw [h0]; decide)).trans ((if_neg (by rw [h0]; decide)).trans ((if_neg (by rw [h0]; decide)).trans ((if_neg (by rw [h0]; decide)).trans ((if_neg (by rw [h0]; decide)).trans ((if_neg (by rw [h0]; decide)).trans (if_pos h0)))))))).symm, rfl⟩
  · skip
    refine lv_tableOut (tgt := 106) hx hb d_M_state_6 (s8_out h0) (by decide) ?_
    refine lv_iconst (v := -1) hx hb d_M_state_106 (by decide) ?_
    refine sw_iret (u := (((st.1.1.1, st.1.1.2.1, st.1.1.2.2.1, st.1.1.2.2.2), st.1.2), ((0 : Int32), st.2.1.2.1, st.2.1.2.2), (st.2.2.1, st.2.2.2.1, st.2.2.2.2.1, st.2.2.2.2.2.1, st.2.2.2.2.2.2.1, st.2.2.2.2.2.2.2))) (v := (-1 : Int32)) hx hb hr hlk hK hP hD hS d_M_state_107 rfl ?_
    exact ⟨(show mstate w st = _ from (if_neg h0.1).trans ((if_neg h0.2.1).trans ((if_neg h0.2.2.1).trans ((if_neg h0.2.2.2.1).trans ((if_neg h0.2.2.2.2.1).trans ((if_neg h0.2.2.2.2.2.1).trans ((if_neg h0.2.2.2.2.2.2.1).trans (if_neg h0.2.2.2.2.2.2.2)))))))).symm, rfl⟩
set_option maxHeartbeats 4000000 in
set_option maxRecDepth 100000 in
theorem k_M_byteAt (l : Launch) (D : va_G) (cA : ClassId) (aM aG : Nat) (st : Ms) (sz : Nat) (a : Int32) : Ci l y_M_byteAt b_M_byteAt 2 (some .int) 0 D cA (MW cA aM aG) st sz [.ref aM, .int a] (fun r u => r = (mbyte a st).1 ∧ u = (mbyte a st).2) := by
  refine Ci.enter (by decide) (Nat.le_of_ble_eq_true rfl) ?_
  intro pr en s0 m0 ar bl me co A ls hx hb hml hr hlk hown hts hK hN hA hP hD hS hl
  have hl : lv_has ls 2 [(0, .ref aM), (1, .int a)] := hl
  have hown : s0.vm.findClass R_M = some m0.cls := hown
  refine lv_aload_n hx hb d_M_byteAt_0 rfl (lv_at hl 0 rfl) ?_
  refine lv_iload_n hx hb d_M_byteAt_1 rfl (lv_at hl 1 rfl) ?_
  refine lv_if_lt (tgt := 16) hx hb d_M_byteAt_2 (by decide) (fun h2 => ?_) (fun h2 => ?_)
  · skip
    refine lv_iconst (v := 1) hx hb d_M_byteAt_16 (by decide) ?_
    refine va_put (D := D) (ci := 4) (v := .int (1 : Int32)) (ty := .int) (C := R_M) (T := T_M) (N := 14) hx hb hts in_M ty_M ty_M_ok nm_M hown hK hP hD hS 0 rfl rfl 0 (by decide) (hts _ wm_354) (fun _ h9 => h9) rfl (ty_M_ok 0 (by decide)) rfl rfl (Nat.le_of_ble_eq_true rfl) d_M_byteAt_17 (fun H locs hP hD hS => ?_)
    have hP : va_P D vwC (MW cA aM aG (((st.1.1.1, st.1.1.2.1, st.1.1.2.2.1, st.1.1.2.2.2), st.1.2), ((1 : Int32), st.2.1.2.1, st.2.1.2.2), (st.2.2.1, st.2.2.2.1, st.2.2.2.2.1, st.2.2.2.2.2.1, st.2.2.2.2.2.2.1, st.2.2.2.2.2.2.2))) H := hP
    have hD : va_D A (MW cA aM aG (((st.1.1.1, st.1.1.2.1, st.1.1.2.2.1, st.1.1.2.2.2), st.1.2), ((1 : Int32), st.2.1.2.1, st.2.1.2.2), (st.2.2.1, st.2.2.2.1, st.2.2.2.2.1, st.2.2.2.2.2.1, st.2.2.2.2.2.2.1, st.2.2.2.2.2.2.2))) := hD
    refine lv_aload_n hx hb d_M_byteAt_20 rfl (lv_at hl 0 rfl) ?_
    refine va_get (D := D) (ci := 4) (v := .int (1 : Int32)) (C := R_M) (T := T_M) (N := 14) hx hb hts in_M hown hK hP 0 rfl rfl 0 (by decide) (hts _ wm_354) (fun _ h9 => h9) rfl d_M_byteAt_21 ?_
    refine lv_if_ne (tgt := 36) hx hb d_M_byteAt_24 (by decide) (fun _ => ?_) (fun h => absurd h (by decide))
    refine lv_iconst (v := 0) hx hb d_M_byteAt_36 (by decide) ?_
    refine sw_iret (u := (((st.1.1.1, st.1.1.2.1, st.1.1.2.2.1, st.1.1.2.2.2), st.1.2), ((1 : Int32), st.2.1.2.1, st.2.1.2.2), (st.2.2.1, st.2.2.2.1, st.2.2.2.2.1, st.2.2.2.2.2.1, st.2.2.2.2.2.2.1, st.2.2.2.2.2.2.2))) (v := (0 : Int32)) hx hb hr hlk hK hP hD hS d_M_byteAt_37 rfl ?_
    rw [show mbyte a st = _ from if_neg (fun q => q.1 h2)]
    exact ⟨rfl, rfl⟩
  · skip
    refine lv_iload_n hx hb d_M_byteAt_5 rfl (lv_at hl 1 rfl) ?_
    refine lv_sipush (v := 240) hx hb d_M_byteAt_6 (by decide) ?_
    refine lv_icmp_ge (tgt := 16) hx hb d_M_byteAt_9 (by decide) (fun h9 => ?_) (fun h9 => ?_)
    · skip
      refine lv_iconst (v := 1) hx hb d_M_byteAt_16 (by decide) ?_
      refine va_put (D := D) (ci := 4) (v := .int (1 : Int32)) (ty := .int) (C := R_M) (T := T_M) (N := 14) hx hb hts in_M ty_M ty_M_ok nm_M hown hK hP hD hS 0 rfl rfl 0 (by decide) (hts _ wm_354) (fun _ h9 => h9) rfl (ty_M_ok 0 (by decide)) rfl rfl (Nat.le_of_ble_eq_true rfl) d_M_byteAt_17 (fun H locs hP hD hS => ?_)
      have hP : va_P D vwC (MW cA aM aG (((st.1.1.1, st.1.1.2.1, st.1.1.2.2.1, st.1.1.2.2.2), st.1.2), ((1 : Int32), st.2.1.2.1, st.2.1.2.2), (st.2.2.1, st.2.2.2.1, st.2.2.2.2.1, st.2.2.2.2.2.1, st.2.2.2.2.2.2.1, st.2.2.2.2.2.2.2))) H := hP
      have hD : va_D A (MW cA aM aG (((st.1.1.1, st.1.1.2.1, st.1.1.2.2.1, st.1.1.2.2.2), st.1.2), ((1 : Int32), st.2.1.2.1, st.2.1.2.2), (st.2.2.1, st.2.2.2.1, st.2.2.2.2.1, st.2.2.2.2.2.1, st.2.2.2.2.2.2.1, st.2.2.2.2.2.2.2))) := hD
      refine lv_aload_n hx hb d_M_byteAt_20 rfl (lv_at hl 0 rfl) ?_
      refine va_get (D := D) (ci := 4) (v := .int (1 : Int32)) (C := R_M) (T := T_M) (N := 14) hx hb hts in_M hown hK hP 0 rfl rfl 0 (by decide) (hts _ wm_354) (fun _ h9 => h9) rfl d_M_byteAt_21 ?_
      refine lv_if_ne (tgt := 36) hx hb d_M_byteAt_24 (by decide) (fun _ => ?_) (fun h => absurd h (by decide))
      refine lv_iconst (v := 0) hx hb d_M_byteAt_36 (by decide) ?_
      refine sw_iret (u := (((st.1.1.1, st.1.1.2.1, st.1.1.2.2.1, st.1.1.2.2.2), st.1.2), ((1 : Int32), st.2.1.2.1, st.2.1.2.2), (st.2.2.1, st.2.2.2.1, st.2.2.2.2.1, st.2.2.2.2.2.1, st.2.2.2.2.2.2.1, st.2.2.2.2.2.2.2))) (v := (0 : Int32)) hx hb hr hlk hK hP hD hS d_M_byteAt_37 rfl ?_
      rw [show mbyte a st = _ from if_neg (fun q => q.2 h9)]
      exact ⟨rfl, rfl⟩
    · skip
      refine lv_iconst (v := 0) hx hb d_M_byteAt_12 (by decide) ?_
      refine lv_goto (tgt := 17) hx hb d_M_byteAt_13 (by decide) ?_
      refine va_put (D := D) (ci := 4) (v := .int (0 : Int32)) (ty := .int) (C := R_M) (T := T_M) (N := 14) hx hb hts in_M ty_M ty_M_ok nm_M hown hK hP hD hS 0 rfl rfl 0 (by decide) (hts _ wm_354) (fun _ h9 => h9) rfl (ty_M_ok 0 (by decide)) rfl rfl (Nat.le_of_ble_eq_true rfl) d_M_byteAt_17 (fun H locs hP hD hS => ?_)
      have hP : va_P D vwC (MW cA aM aG (((st.1.1.1, st.1.1.2.1, st.1.1.2.2.1, st.1.1.2.2.2), st.1.2), ((0 : Int32), st.2.1.2.1, st.2.1.2.2), (st.2.2.1, st.2.2.2.1, st.2.2.2.2.1, st.2.2.2.2.2.1, st.2.2.2.2.2.2.1, st.2.2.2.2.2.2.2))) H := hP
      have hD : va_D A (MW cA aM aG (((st.1.1.1, st.1.1.2.1, st.1.1.2.2.1, st.1.1.2.2.2), st.1.2), ((0 : Int32), st.2.1.2.1, st.2.1.2.2), (st.2.2.1, st.2.2.2.1, st.2.2.2.2.1, st.2.2.2.2.2.1, st.2.2.2.2.2.2.1, st.2.2.2.2.2.2.2))) := hD
      refine lv_aload_n hx hb d_M_byteAt_20 rfl (lv_at hl 0 rfl) ?_
      refine va_get (D := D) (ci := 4) (v := .int (0 : Int32)) (C := R_M) (T := T_M) (N := 14) hx hb hts in_M hown hK hP 0 rfl rfl 0 (by decide) (hts _ wm_354) (fun _ h9 => h9) rfl d_M_byteAt_21 ?_
      refine lv_if_ne (tgt := 36) hx hb d_M_byteAt_24 (by decide) (fun h => absurd h (by decide)) (fun _ => ?_)
      obtain ⟨n0, hn0, hn1⟩ : ∃ k : Nat, a = nI k ∧ k < 240 := n240 h2 h9
      refine lv_aload_n hx hb d_M_byteAt_27 rfl (lv_at hl 0 rfl) ?_
      refine va_get (D := D) (ci := 4) (v := .ref aG) (C := R_M) (T := T_M) (N := 14) hx hb hts in_M hown hK hP 0 rfl rfl 1 (by decide) (hts _ wm_355) (fun _ h9 => h9) rfl d_M_byteAt_28 ?_
      refine lv_iload_n hx hb d_M_byteAt_31 rfl (lv_at hl 1 rfl) ?_
      refine sw_tp (y := nI n0) hn0 ?_
      refine sw_ald (n := n0) (f := st.1.1.1) hx hb hK hP 1 0 rfl rfl (by omega) (by decide) d_M_byteAt_32 ?_
      refine lv_goto (tgt := 37) hx hb d_M_byteAt_33 (by decide) ?_
      refine sw_iret (u := (((st.1.1.1, st.1.1.2.1, st.1.1.2.2.1, st.1.1.2.2.2), st.1.2), ((0 : Int32), st.2.1.2.1, st.2.1.2.2), (st.2.2.1, st.2.2.2.1, st.2.2.2.2.1, st.2.2.2.2.2.1, st.2.2.2.2.2.2.1, st.2.2.2.2.2.2.2))) (v := (st.1.1.1 n0)) hx hb hr hlk hK hP hD hS d_M_byteAt_37 rfl ?_
      rw [show mbyte a st = _ from if_pos ⟨h2, h9⟩, hn0, nI_clamp (by omega)]
      exact ⟨rfl, rfl⟩
set_option maxHeartbeats 4000000 in
set_option maxRecDepth 100000 in
theorem k_M_begin (l : Launch) (D : va_G) (cA : ClassId) (aM aG : Nat) (st : Ms) (sz : Nat) (v n : Int32) : Ci l y_M_begin b_M_begin 4 (some .int) 2 D cA (MW cA aM aG) st sz [.ref aM, .int v, .int n] (fun r u => r = (mbegin v n st).1 ∧ u = (mbegin v n st).2) := by
  refine Ci.enter (by decide) (Nat.le_of_ble_eq_true rfl) ?_
  intro pr en s0 m0 ar bl me co A ls hx hb hml hr hlk hown hts hK hN hA hP hD hS hl
  have hl : lv_has ls 4 [(0, .ref aM), (1, .int v), (2, .int n)] := hl
  have hown : s0.vm.findClass R_M = some m0.cls := hown
  refine lv_aload_n hx hb d_M_begin_0 rfl (lv_at hl 0 rfl) ?_
  refine lv_iconst (v := 0) hx hb d_M_begin_1 (by decide) ?_
  refine va_put (D := D) (ci := 4) (v := .int (0 : Int32)) (ty := .int) (C := R_M) (T := T_M) (N := 14) hx hb hts in_M ty_M ty_M_ok nm_M hown hK hP hD hS 0 rfl rfl 0 (by decide) (hts _ wm_354) (fun _ h9 => h9) rfl (ty_M_ok 0 (by decide)) rfl rfl (Nat.le_of_ble_eq_true rfl) d_M_begin_2 (fun H locs hP hD hS => ?_)
  have hP : va_P D vwC (MW cA aM aG (((st.1.1.1, st.1.1.2.1, st.1.1.2.2.1, st.1.1.2.2.2), st.1.2), ((0 : Int32), st.2.1.2.1, st.2.1.2.2), (st.2.2.1, st.2.2.2.1, st.2.2.2.2.1, st.2.2.2.2.2.1, st.2.2.2.2.2.2.1, st.2.2.2.2.2.2.2))) H := hP
  have hD : va_D A (MW cA aM aG (((st.1.1.1, st.1.1.2.1, st.1.1.2.2.1, st.1.1.2.2.2), st.1.2), ((0 : Int32), st.2.1.2.1, st.2.1.2.2), (st.2.2.1, st.2.2.2.1, st.2.2.2.2.1, st.2.2.2.2.2.1, st.2.2.2.2.2.2.1, st.2.2.2.2.2.2.2))) := hD
  refine lv_aload_n hx hb d_M_begin_5 rfl (lv_at hl 0 rfl) ?_
  refine va_get (D := D) (ci := 4) (v := .int st.2.1.2.2) (C := R_M) (T := T_M) (N := 14) hx hb hts in_M hown hK hP 0 rfl rfl 3 (by decide) (hts _ wm_357) (fun _ h9 => h9) rfl d_M_begin_6 ?_
  refine lv_if_eq (tgt := 46) hx hb d_M_begin_9 (by decide) (fun h9 => ?_) (fun h9 => ?_)
  · skip
    refine lv_iconst (v := -1) hx hb d_M_begin_46 (by decide) ?_
    refine sw_iret (u := (((st.1.1.1, st.1.1.2.1, st.1.1.2.2.1, st.1.1.2.2.2), st.1.2), ((0 : Int32), st.2.1.2.1, st.2.1.2.2), (st.2.2.1, st.2.2.2.1, st.2.2.2.2.1, st.2.2.2.2.2.1, st.2.2.2.2.2.2.1, st.2.2.2.2.2.2.2))) (v := (-1 : Int32)) hx hb hr hlk hK hP hD hS d_M_begin_47 rfl ?_
    rw [show mbegin v n st = _ from if_pos (decide_eq_true (Or.inl h9))]
    exact ⟨rfl, rfl⟩
  · skip
    refine lv_iload_n hx hb d_M_begin_12 rfl (lv_at hl 1 rfl) ?_
    obtain ⟨v13, hv13⟩ : ∃ x : Ms, x = (((st.1.1.1, st.1.1.2.1, st.1.1.2.2.1, st.1.1.2.2.2), st.1.2), ((0 : Int32), st.2.1.2.1, st.2.1.2.2), (st.2.2.1, st.2.2.2.1, st.2.2.2.2.1, st.2.2.2.2.2.1, st.2.2.2.2.2.2.1, st.2.2.2.2.2.2.2)) := ⟨_, rfl⟩
    have hP : va_P D vwC (MW cA aM aG v13) H := by rw [hv13]; exact hP
    have hD : va_D A (MW cA aM aG v13) := by rw [hv13]; exact hD
    refine sw_callSi (rest := []) [.int v] hx hb hml hown hts hK hN hA hP hD hS (k_M_isVersion l D cA aM aG v13 _ v) cw_M_49 ⟨Nat.le_of_ble_eq_true rfl, Nat.le_of_ble_eq_true rfl⟩ hl.1 rfl rfl (Nat.le_of_ble_eq_true rfl) d_M_begin_13 (fun r13 u13 H locs hq13 hP hD hS => ?_)
    obtain ⟨hr13, hq13⟩ := hq13
    rw [hr13]
    rw [hq13] at hP hD
    refine sw_bz_eq (tgt := 46) hx hb d_M_begin_16 (by decide) (fun h16 => ?_) (fun h16 => ?_)
    · skip
      refine lv_iconst (v := -1) hx hb d_M_begin_46 (by decide) ?_
      refine sw_iret (u := v13) (v := (-1 : Int32)) hx hb hr hlk hK hP hD hS d_M_begin_47 rfl ?_
      subst hv13
      rw [show mbegin v n st = _ from if_pos (decide_eq_true (Or.inr (Or.inl h16)))]
      exact ⟨rfl, rfl⟩
    · skip
      refine lv_iload_n hx hb d_M_begin_19 rfl (lv_at hl 2 rfl) ?_
      refine sw_callSi (rest := []) [.int n] hx hb hml hown hts hK hN hA hP hD hS (k_M_isLength l D cA aM aG v13 _ n) cw_M_53 ⟨Nat.le_of_ble_eq_true rfl, Nat.le_of_ble_eq_true rfl⟩ hl.1 rfl rfl (Nat.le_of_ble_eq_true rfl) d_M_begin_20 (fun r20 u20 H locs hq20 hP hD hS => ?_)
      obtain ⟨hr20, hq20⟩ := hq20
      rw [hr20]
      rw [hq20] at hP hD
      refine sw_bz_eq (tgt := 46) hx hb d_M_begin_23 (by decide) (fun h23 => ?_) (fun h23 => ?_)
      · skip
        refine lv_iconst (v := -1) hx hb d_M_begin_46 (by decide) ?_
        refine sw_iret (u := v13) (v := (-1 : Int32)) hx hb hr hlk hK hP hD hS d_M_begin_47 rfl ?_
        subst hv13
        rw [show mbegin v n st = _ from if_pos (decide_eq_true (Or.inr (Or.inr (Or.inl h23))))]
        exact ⟨rfl, rfl⟩
      · skip
        refine lv_aload_n hx hb d_M_begin_26 rfl (lv_at hl 0 rfl) ?_
        refine lv_sipush (v := 208) hx hb d_M_begin_27 (by decide) ?_
        refine sw_callVi (rest := []) 0 4 [.int (nI 208)] hx hb hml hown hts hK hN hA hP hD hS (k_M_asks l D cA aM aG v13 _ 208 (by omega)) cw_M_76 rfl rfl rfl ⟨Nat.le_of_ble_eq_true rfl, Nat.le_of_ble_eq_true rfl⟩ hl.1 rfl rfl (Nat.le_of_ble_eq_true rfl) d_M_begin_30 (fun r30 u30 H locs hq30 hP hD hS => ?_)
        obtain ⟨hr30, hq30⟩ := hq30
        rw [hr30]
        rw [hq30] at hP hD
        refine sw_bz_ne (tgt := 46) hx hb d_M_begin_33 (by decide) (fun h33 => ?_) (fun h33 => ?_)
        · skip
          refine lv_iconst (v := -1) hx hb d_M_begin_46 (by decide) ?_
          refine sw_iret (u := v13) (v := (-1 : Int32)) hx hb hr hlk hK hP hD hS d_M_begin_47 rfl ?_
          subst hv13
          rw [show mbegin v n st = _ from if_pos (decide_eq_true (Or.inr (Or.inr (Or.inr (Or.inl h33)))))]
          exact ⟨rfl, rfl⟩
        · skip
          refine lv_aload_n hx hb d_M_begin_36 rfl (lv_at hl 0 rfl) ?_
          refine lv_sipush (v := 224) hx hb d_M_begin_37 (by decide) ?_
          refine sw_callVi (rest := []) 0 4 [.int (nI 224)] hx hb hml hown hts hK hN hA hP hD hS (k_M_asks l D cA aM aG v13 _ 224 (by omega)) cw_M_76 rfl rfl rfl ⟨Nat.le_of_ble_eq_true rfl, Nat.le_of_ble_eq_true rfl⟩ hl.1 rfl rfl (Nat.le_of_ble_eq_true rfl) d_M_begin_40 (fun r40 u40 H locs hq40 hP hD hS => ?_)
          obtain ⟨hr40, hq40⟩ := hq40
          rw [hr40]
          rw [hq40] at hP hD
          refine sw_bz_eq (tgt := 48) hx hb d_M_begin_43 (by decide) (fun h43 => ?_) (fun h43 => ?_)
          · skip
            refine lv_aload_n hx hb d_M_begin_48 rfl (lv_at hl 0 rfl) ?_
            refine lv_iconst (v := 0) hx hb d_M_begin_49 (by decide) ?_
            refine va_put (D := D) (ci := 4) (v := .int (0 : Int32)) (ty := .boolean) (C := R_M) (T := T_M) (N := 14) hx hb hts in_M ty_M ty_M_ok nm_M hown hK hP hD hS 0 rfl rfl 5 (by decide) (hts _ wm_359) (fun _ h9 => h9) rfl (ty_M_ok 5 (by decide)) rfl rfl (Nat.le_of_ble_eq_true rfl) d_M_begin_50 (fun H locs hP hD hS => ?_)
            have hP : va_P D vwC (MW cA aM aG (((v13.1.1.1, v13.1.1.2.1, v13.1.1.2.2.1, v13.1.1.2.2.2), false), (v13.2.1.1, v13.2.1.2.1, v13.2.1.2.2), (v13.2.2.1, v13.2.2.2.1, v13.2.2.2.2.1, v13.2.2.2.2.2.1, v13.2.2.2.2.2.2.1, v13.2.2.2.2.2.2.2))) H := hP
            have hD : va_D A (MW cA aM aG (((v13.1.1.1, v13.1.1.2.1, v13.1.1.2.2.1, v13.1.1.2.2.2), false), (v13.2.1.1, v13.2.1.2.1, v13.2.1.2.2), (v13.2.2.1, v13.2.2.2.1, v13.2.2.2.2.1, v13.2.2.2.2.2.1, v13.2.2.2.2.2.2.1, v13.2.2.2.2.2.2.2))) := hD
            refine lv_bipush (v := 6) hx hb d_M_begin_53 (by decide) ?_
            refine lv_istore_n hx hb d_M_begin_55 rfl hl (by decide) rfl (fun ls hl => ?_)
            have hl : lv_has ls 4 [(3, .int (6 : Int32)), (0, .ref aM), (1, .int v), (2, .int n)] := hl
            have loop : ∀ (d : Nat) (i : Nat) (u : Ms) (H : Heap) (locs : List Loc) (ls : Array Slot), 6 - i = d → i ≤ 6 → perl (6 - i) i u.1 = perl 6 0 (v13.1.1, false) → u.2 = v13.2 → lv_has ls 4 [(3, .int (nI (6 + i))), (0, .ref aM), (1, .int v), (2, .int n)] → va_P D vwC (MW cA aM aG u) H → va_D A (MW cA aM aG u) → va_S A s0.heap H locs → W pr l en (lvr 2) s0 m0 ar bl me co H locs 0 0 (MQ bl (va_Qi (fun r u => r = (mbegin v n st).1 ∧ u = (mbegin v n st).2) (sw_B D cA A (MW cA aM aG)) A) ar s0 0 0 A) (F0 m0 56 ls []) := by
              intro d
              induction d using Nat.strongRecOn with
              | ind d ih =>
                intro i u H locs ls hd hi hT hE hl hP hD hS
                refine lv_iload_n hx hb d_M_begin_56 rfl (lv_at hl 0 rfl) ?_
                refine lv_bipush (v := 12) hx hb d_M_begin_57 (by decide) ?_
                refine sw_nc_ge (a := 6 + i) (b := 12) (tgt := 73) hx hb (by omega) (by omega) d_M_begin_59 (by decide) (fun h59 => ?_) (fun h59 => ?_)
                · skip
                  refine lv_aload_n hx hb d_M_begin_73 rfl (lv_at hl 1 rfl) ?_
                  refine lv_iconst (v := 4) hx hb d_M_begin_74 (by decide) ?_
                  refine va_put (D := D) (ci := 4) (v := .int (4 : Int32)) (ty := .int) (C := R_M) (T := T_M) (N := 14) hx hb hts in_M ty_M ty_M_ok nm_M hown hK hP hD hS 0 rfl rfl 8 (by decide) (hts _ wm_362) (fun _ h9 => h9) rfl (ty_M_ok 8 (by decide)) rfl rfl (Nat.le_of_ble_eq_true rfl) d_M_begin_75 (fun H locs hP hD hS => ?_)
                  have hP : va_P D vwC (MW cA aM aG (((u.1.1.1, u.1.1.2.1, u.1.1.2.2.1, u.1.1.2.2.2), u.1.2), (u.2.1.1, u.2.1.2.1, u.2.1.2.2), (u.2.2.1, u.2.2.2.1, (4 : Int32), u.2.2.2.2.2.1, u.2.2.2.2.2.2.1, u.2.2.2.2.2.2.2))) H := hP
                  have hD : va_D A (MW cA aM aG (((u.1.1.1, u.1.1.2.1, u.1.1.2.2.1, u.1.1.2.2.2), u.1.2), (u.2.1.1, u.2.1.2.1, u.2.1.2.2), (u.2.2.1, u.2.2.2.1, (4 : Int32), u.2.2.2.2.2.1, u.2.2.2.2.2.2.1, u.2.2.2.2.2.2.2))) := hD
                  refine lv_aload_n hx hb d_M_begin_78 rfl (lv_at hl 1 rfl) ?_
                  refine lv_iload_n hx hb d_M_begin_79 rfl (lv_at hl 3 rfl) ?_
                  refine va_put (D := D) (ci := 4) (v := .int n) (ty := .int) (C := R_M) (T := T_M) (N := 14) hx hb hts in_M ty_M ty_M_ok nm_M hown hK hP hD hS 0 rfl rfl 9 (by decide) (hts _ wm_363) (fun _ h9 => h9) rfl (ty_M_ok 9 (by decide)) rfl rfl (Nat.le_of_ble_eq_true rfl) d_M_begin_80 (fun H locs hP hD hS => ?_)
                  have hP : va_P D vwC (MW cA aM aG (((u.1.1.1, u.1.1.2.1, u.1.1.2.2.1, u.1.1.2.2.2), u.1.2), (u.2.1.1, u.2.1.2.1, u.2.1.2.2), (u.2.2.1, n, (4 : Int32), u.2.2.2.2.2.1, u.2.2.2.2.2.2.1, u.2.2.2.2.2.2.2))) H := hP
                  have hD : va_D A (MW cA aM aG (((u.1.1.1, u.1.1.2.1, u.1.1.2.2.1, u.1.1.2.2.2), u.1.2), (u.2.1.1, u.2.1.2.1, u.2.1.2.2), (u.2.2.1, n, (4 : Int32), u.2.2.2.2.2.1, u.2.2.2.2.2.2.1, u.2.2.2.2.2.2.2))) := hD
                  refine lv_aload_n hx hb d_M_begin_83 rfl (lv_at hl 1 rfl) ?_
                  refine lv_iload_n hx hb d_M_begin_84 rfl (lv_at hl 2 rfl) ?_
                  refine va_put (D := D) (ci := 4) (v := .int v) (ty := .int) (C := R_M) (T := T_M) (N := 14) hx hb hts in_M ty_M ty_M_ok nm_M hown hK hP hD hS 0 rfl rfl 10 (by decide) (hts _ wm_364) (fun _ h9 => h9) rfl (ty_M_ok 10 (by decide)) rfl rfl (Nat.le_of_ble_eq_true rfl) d_M_begin_85 (fun H locs hP hD hS => ?_)
                  have hP : va_P D vwC (MW cA aM aG (((u.1.1.1, u.1.1.2.1, u.1.1.2.2.1, u.1.1.2.2.2), u.1.2), (u.2.1.1, u.2.1.2.1, u.2.1.2.2), (v, n, (4 : Int32), u.2.2.2.2.2.1, u.2.2.2.2.2.2.1, u.2.2.2.2.2.2.2))) H := hP
                  have hD : va_D A (MW cA aM aG (((u.1.1.1, u.1.1.2.1, u.1.1.2.2.1, u.1.1.2.2.2), u.1.2), (u.2.1.1, u.2.1.2.1, u.2.1.2.2), (v, n, (4 : Int32), u.2.2.2.2.2.1, u.2.2.2.2.2.2.1, u.2.2.2.2.2.2.2))) := hD
                  refine lv_aload_n hx hb d_M_begin_88 rfl (lv_at hl 1 rfl) ?_
                  refine lv_iconst (v := 4) hx hb d_M_begin_89 (by decide) ?_
                  refine va_put (D := D) (ci := 4) (v := .int (4 : Int32)) (ty := .int) (C := R_M) (T := T_M) (N := 14) hx hb hts in_M ty_M ty_M_ok nm_M hown hK hP hD hS 0 rfl rfl 11 (by decide) (hts _ wm_365) (fun _ h9 => h9) rfl (ty_M_ok 11 (by decide)) rfl rfl (Nat.le_of_ble_eq_true rfl) d_M_begin_90 (fun H locs hP hD hS => ?_)
                  have hP : va_P D vwC (MW cA aM aG (((u.1.1.1, u.1.1.2.1, u.1.1.2.2.1, u.1.1.2.2.2), u.1.2), (u.2.1.1, u.2.1.2.1, u.2.1.2.2), (v, n, (4 : Int32), (4 : Int32), u.2.2.2.2.2.2.1, u.2.2.2.2.2.2.2))) H := hP
                  have hD : va_D A (MW cA aM aG (((u.1.1.1, u.1.1.2.1, u.1.1.2.2.1, u.1.1.2.2.2), u.1.2), (u.2.1.1, u.2.1.2.1, u.2.1.2.2), (v, n, (4 : Int32), (4 : Int32), u.2.2.2.2.2.2.1, u.2.2.2.2.2.2.2))) := hD
                  refine lv_aload_n hx hb d_M_begin_93 rfl (lv_at hl 1 rfl) ?_
                  refine lv_iconst (v := 0) hx hb d_M_begin_94 (by decide) ?_
                  refine va_put (D := D) (ci := 4) (v := .int (0 : Int32)) (ty := .int) (C := R_M) (T := T_M) (N := 14) hx hb hts in_M ty_M ty_M_ok nm_M hown hK hP hD hS 0 rfl rfl 12 (by decide) (hts _ wm_366) (fun _ h9 => h9) rfl (ty_M_ok 12 (by decide)) rfl rfl (Nat.le_of_ble_eq_true rfl) d_M_begin_95 (fun H locs hP hD hS => ?_)
                  have hP : va_P D vwC (MW cA aM aG (((u.1.1.1, u.1.1.2.1, u.1.1.2.2.1, u.1.1.2.2.2), u.1.2), (u.2.1.1, u.2.1.2.1, u.2.1.2.2), (v, n, (4 : Int32), (4 : Int32), (0 : Int32), u.2.2.2.2.2.2.2))) H := hP
                  have hD : va_D A (MW cA aM aG (((u.1.1.1, u.1.1.2.1, u.1.1.2.2.1, u.1.1.2.2.2), u.1.2), (u.2.1.1, u.2.1.2.1, u.2.1.2.2), (v, n, (4 : Int32), (4 : Int32), (0 : Int32), u.2.2.2.2.2.2.2))) := hD
                  refine lv_aload_n hx hb d_M_begin_98 rfl (lv_at hl 1 rfl) ?_
                  refine lv_iconst (v := 4) hx hb d_M_begin_99 (by decide) ?_
                  obtain ⟨v100, hv100⟩ : ∃ x : Ms, x = (((u.1.1.1, u.1.1.2.1, u.1.1.2.2.1, u.1.1.2.2.2), u.1.2), (u.2.1.1, u.2.1.2.1, u.2.1.2.2), (v, n, (4 : Int32), (4 : Int32), (0 : Int32), u.2.2.2.2.2.2.2)) := ⟨_, rfl⟩
                  have hP : va_P D vwC (MW cA aM aG v100) H := by rw [hv100]; exact hP
                  have hD : va_D A (MW cA aM aG v100) := by rw [hv100]; exact hD
                  refine sw_callVi (rest := []) 0 4 [.int (4 : Int32)] hx hb hml hown hts hK hN hA hP hD hS (k_M_answer l D cA aM aG v100 _ (4 : Int32)) cw_M_98 rfl rfl rfl ⟨Nat.le_of_ble_eq_true rfl, Nat.le_of_ble_eq_true rfl⟩ hl.1 rfl rfl (Nat.le_of_ble_eq_true rfl) d_M_begin_100 (fun r100 u100 H locs hq100 hP hD hS => ?_)
                  obtain ⟨hr100, hu100⟩ := hq100
                  rw [hr100]
                  refine sw_iret (u := u100) (v := ((mans (4 : Int32) v100).1)) hx hb hr hlk hK hP hD hS d_M_begin_103 rfl ?_
                  have hno : mbegno v n st = false := decide_eq_false (fun q => q.elim h9 (fun q => q.elim (fun q => by rw [h16] at q; cases q) (fun q => q.elim (fun q => by rw [h23] at q; cases q) (fun q => q.elim (fun q => by rw [hv13] at h33; rw [show masks st.1.1.1 208 = false from h33] at q; cases q) (fun q => by rw [hv13] at h43; rw [show masks st.1.1.1 224 = false from h43] at q; cases q)))))
                  have hi : i = 6 := by omega
                  subst hi
                  have hz : u.1 = perl 6 0 (v13.1.1, false) := perl_0.symm.trans hT
                  have ev : v100 = (u.1, (u.2.1.1, u.2.1.2.1, u.2.1.2.2), v, n, 4, 4, 0, u.2.2.2.2.2.2.2) := hv100
                  rw [hz, hE, hv13] at ev
                  rw [show mbegin v n st = _ from if_neg (by rw [hno]; decide)]
                  rw [ev] at hu100 ⊢
                  exact ⟨rfl, hu100⟩
                · skip
                  refine lv_aload_n hx hb d_M_begin_62 rfl (lv_at hl 1 rfl) ?_
                  refine lv_iload_n hx hb d_M_begin_63 rfl (lv_at hl 0 rfl) ?_
                  refine sw_callVv (rest := []) 0 4 [.int (nI (6 + i))] hx hb hml hown hts hK hN hA hP hD hS (k_M_erase l D cA aM aG u _ (6 + i) (by omega)) cw_M_65 rfl rfl rfl ⟨Nat.le_of_ble_eq_true rfl, Nat.le_of_ble_eq_true rfl⟩ hl.1 rfl rfl (Nat.le_of_ble_eq_true rfl) d_M_begin_64 (fun u64 H locs hq64 hP hD hS => ?_)
                  have hu64 : u64 = (perase (6 + i) u.1, u.2) := hq64
                  refine lv_iinc (k := 0) (v := nI (6 + i + 1)) hx hb d_M_begin_67 hl rfl (nI_1 _) (by decide) rfl (fun ls hl => ?_)
                  have hl : lv_has ls 4 [(3, .int (nI (6 + i + 1))), (0, .ref aM), (1, .int v), (2, .int n)] := hl
                  refine lv_goto (tgt := 56) hx hb d_M_begin_70 (by decide) ?_
                  exact ih (6 - (i + 1)) (by omega) (i + 1) u64 _ _ _ rfl (by omega) (by rw [← hT, perl_s (p := i) (by omega), hu64]) (by rw [hu64]; exact hE) (lv_sub hl [0, 1, 2, 3] rfl) hP hD hS
            exact loop _ 0 (((v13.1.1.1, v13.1.1.2.1, v13.1.1.2.2.1, v13.1.1.2.2.2), false), (v13.2.1.1, v13.2.1.2.1, v13.2.1.2.2), (v13.2.2.1, v13.2.2.2.1, v13.2.2.2.2.1, v13.2.2.2.2.2.1, v13.2.2.2.2.2.2.1, v13.2.2.2.2.2.2.2)) _ _ _ rfl (by omega) rfl rfl (lv_sub hl [0, 1, 2, 3] rfl) hP hD hS
          · skip
            refine lv_iconst (v := -1) hx hb d_M_begin_46 (by decide) ?_
            refine sw_iret (u := v13) (v := (-1 : Int32)) hx hb hr hlk hK hP hD hS d_M_begin_47 rfl ?_
            subst hv13
            rw [show mbegin v n st = _ from if_pos (decide_eq_true (Or.inr (Or.inr (Or.inr (Or.inr h43)))))]
            exact ⟨rfl, rfl⟩
set_option maxHeartbeats 4000000 in
set_option maxRecDepth 100000 in
theorem k_M_mainByte (l : Launch) (D : va_G) (cA : ClassId) (aM aG : Nat) (st : Ms) (sz : Nat) (q : Nat) (hq : st.2.2.2.2.2.1 = nI q) (hq2 : q < 2 ^ 30) : Ci l y_M_mainByte b_M_mainByte 1 (some .int) 0 D cA (MW cA aM aG) st sz [.ref aM] (fun r u => r = cmb st.1.1.1 q ∧ u = st) := by
  refine Ci.enter (by decide) (Nat.le_of_ble_eq_true rfl) ?_
  intro pr en s0 m0 ar bl me co A ls hx hb hml hr hlk hown hts hK hN hA hP hD hS hl
  have hl : lv_has ls 1 [(0, .ref aM)] := hl
  have hown : s0.vm.findClass R_M = some m0.cls := hown
  refine lv_aload_n hx hb d_M_mainByte_0 rfl (lv_at hl 0 rfl) ?_
  refine va_get (D := D) (ci := 4) (v := .int st.2.2.2.2.2.1) (C := R_M) (T := T_M) (N := 14) hx hb hts in_M hown hK hP 0 rfl rfl 11 (by decide) (hts _ wm_365) (fun _ h9 => h9) rfl d_M_mainByte_1 ?_
  refine sw_tp (y := nI q) hq ?_
  refine lv_bipush (v := 96) hx hb d_M_mainByte_4 (by decide) ?_
  refine sw_nc_ge (a := q) (b := 96) (tgt := 21) hx hb (by omega) (by omega) d_M_mainByte_6 (by decide) (fun h6 => ?_) (fun h6 => ?_)
  · skip
    refine lv_iconst (v := 0) hx hb d_M_mainByte_21 (by decide) ?_
    refine sw_iret (u := st) (v := (0 : Int32)) hx hb hr hlk hK hP hD hS d_M_mainByte_22 rfl ?_
    exact ⟨(if_neg (by omega)).symm, rfl⟩
  · skip
    refine lv_aload_n hx hb d_M_mainByte_9 rfl (lv_at hl 0 rfl) ?_
    refine va_get (D := D) (ci := 4) (v := .ref aG) (C := R_M) (T := T_M) (N := 14) hx hb hts in_M hown hK hP 0 rfl rfl 1 (by decide) (hts _ wm_355) (fun _ h9 => h9) rfl d_M_mainByte_10 ?_
    refine lv_aload_n hx hb d_M_mainByte_13 rfl (lv_at hl 0 rfl) ?_
    refine va_get (D := D) (ci := 4) (v := .int st.2.2.2.2.2.1) (C := R_M) (T := T_M) (N := 14) hx hb hts in_M hown hK hP 0 rfl rfl 11 (by decide) (hts _ wm_365) (fun _ h9 => h9) rfl d_M_mainByte_14 ?_
    refine sw_tp (y := nI q) hq ?_
    refine sw_ald (n := q) (f := st.1.1.1) hx hb hK hP 1 0 rfl rfl (by omega) (by decide) d_M_mainByte_17 ?_
    refine lv_goto (tgt := 22) hx hb d_M_mainByte_18 (by decide) ?_
    refine sw_iret (u := st) (v := (st.1.1.1 q)) hx hb hr hlk hK hP hD hS d_M_mainByte_22 rfl ?_
    exact ⟨(if_pos h6).symm, rfl⟩
set_option maxHeartbeats 4000000 in
set_option maxRecDepth 100000 in
theorem k_M_make (l : Launch) (D : va_G) (cA : ClassId) (aM aG : Nat) (st : Ms) (sz : Nat) (n Ln : Nat) (v : Int32) (hn : st.2.2.2.2.1 = nI n) (hL : st.2.2.2.1 = nI Ln) (h : n ≤ Ln) (h96 : Ln ≤ 96) (h4 : 4 ≤ Ln) : Cv l y_M_make b_M_make 2 none 2 D cA (MW cA aM aG) st sz [.ref aM, .int v] (fun u => u = mmake n Ln v st) := by
  refine Cv.enter (by decide) (Nat.le_of_ble_eq_true rfl) ?_
  intro pr en s0 m0 ar bl me co A ls hx hb hml hr hlk hown hts hK hN hA hP hD hS hl
  have hl : lv_has ls 2 [(0, .ref aM), (1, .int v)] := hl
  have hown : s0.vm.findClass R_M = some m0.cls := hown
  refine lv_aload_n hx hb d_M_make_0 rfl (lv_at hl 0 rfl) ?_
  refine va_get (D := D) (ci := 4) (v := .int st.2.2.2.2.1) (C := R_M) (T := T_M) (N := 14) hx hb hts in_M hown hK hP 0 rfl rfl 8 (by decide) (hts _ wm_362) (fun _ h9 => h9) rfl d_M_make_1 ?_
  refine sw_tp (y := nI n) hn ?_
  refine lv_aload_n hx hb d_M_make_4 rfl (lv_at hl 0 rfl) ?_
  refine va_get (D := D) (ci := 4) (v := .int st.2.2.2.1) (C := R_M) (T := T_M) (N := 14) hx hb hts in_M hown hK hP 0 rfl rfl 9 (by decide) (hts _ wm_363) (fun _ h9 => h9) rfl d_M_make_5 ?_
  refine sw_tp (y := nI Ln) hL ?_
  refine sw_nc_eq (a := n) (b := Ln) (tgt := 18) hx hb (by omega) (by omega) d_M_make_8 (by decide) (fun h8 => ?_) (fun h8 => ?_)
  · skip
    refine sw_vret (u := st) hx hb hr hlk hK hP hD hS d_M_make_18 ?_
    show _ = mmake n Ln v st
    rw [show mmake n Ln v st = st from if_pos (Or.inl h8)]
  · skip
    refine lv_aload_n hx hb d_M_make_11 rfl (lv_at hl 0 rfl) ?_
    refine va_get (D := D) (ci := 4) (v := .int (b2i (st.1.2))) (C := R_M) (T := T_M) (N := 14) hx hb hts in_M hown hK hP 0 rfl rfl 5 (by decide) (hts _ wm_359) (fun _ h9 => h9) rfl d_M_make_12 ?_
    refine sw_bz_eq (tgt := 19) hx hb d_M_make_15 (by decide) (fun h15 => ?_) (fun h15 => ?_)
    · skip
      refine lv_aload_n hx hb d_M_make_19 rfl (lv_at hl 0 rfl) ?_
      refine lv_bipush (v := 96) hx hb d_M_make_20 (by decide) ?_
      refine lv_aload_n hx hb d_M_make_22 rfl (lv_at hl 0 rfl) ?_
      refine va_get (D := D) (ci := 4) (v := .int st.2.2.2.2.1) (C := R_M) (T := T_M) (N := 14) hx hb hts in_M hown hK hP 0 rfl rfl 8 (by decide) (hts _ wm_362) (fun _ h9 => h9) rfl d_M_make_23 ?_
      refine sw_tp (y := nI n) hn ?_
      refine lv_iadd hx hb d_M_make_26 ?_
      refine sw_tp (y := nI (96 + n)) (nI_add 96 n) ?_
      refine lv_iload_n hx hb d_M_make_27 rfl (lv_at hl 1 rfl) ?_
      refine lv_sipush (v := 255) hx hb d_M_make_28 (by decide) ?_
      refine lv_iand hx hb d_M_make_31 ?_
      refine sw_callVv (rest := []) 0 4 [.int (nI (96 + n)), .int (v &&& (255 : Int32))] hx hb hml hown hts hK hN hA hP hD hS (k_M_write l D cA aM aG st _ (96 + n) (v &&& (255 : Int32)) (by omega)) cw_M_69 rfl rfl rfl ⟨Nat.le_of_ble_eq_true rfl, Nat.le_of_ble_eq_true rfl⟩ hl.1 rfl rfl (Nat.le_of_ble_eq_true rfl) d_M_make_32 (fun u32 H locs hq32 hP hD hS => ?_)
      have hu32 : u32 = (pwrite (96 + n) (v &&& (255 : Int32)) st.1, st.2) := hq32
      refine lv_aload_n hx hb d_M_make_35 rfl (lv_at hl 0 rfl) ?_
      refine lv_dup hx hb d_M_make_36 rfl ?_
      refine va_get (D := D) (ci := 4) (v := .int u32.2.2.2.2.1) (C := R_M) (T := T_M) (N := 14) hx hb hts in_M hown hK hP 0 rfl rfl 8 (by decide) (hts _ wm_362) (fun _ h9 => h9) rfl d_M_make_37 ?_
      refine lv_iconst (v := 1) hx hb d_M_make_40 (by decide) ?_
      refine lv_iadd hx hb d_M_make_41 ?_
      refine va_put (D := D) (ci := 4) (v := .int (u32.2.2.2.2.1 + (1 : Int32))) (ty := .int) (C := R_M) (T := T_M) (N := 14) hx hb hts in_M ty_M ty_M_ok nm_M hown hK hP hD hS 0 rfl rfl 8 (by decide) (hts _ wm_362) (fun _ h9 => h9) rfl (ty_M_ok 8 (by decide)) rfl rfl (Nat.le_of_ble_eq_true rfl) d_M_make_42 (fun H locs hP hD hS => ?_)
      have hP : va_P D vwC (MW cA aM aG (((u32.1.1.1, u32.1.1.2.1, u32.1.1.2.2.1, u32.1.1.2.2.2), u32.1.2), (u32.2.1.1, u32.2.1.2.1, u32.2.1.2.2), (u32.2.2.1, u32.2.2.2.1, (u32.2.2.2.2.1 + (1 : Int32)), u32.2.2.2.2.2.1, u32.2.2.2.2.2.2.1, u32.2.2.2.2.2.2.2))) H := hP
      have hD : va_D A (MW cA aM aG (((u32.1.1.1, u32.1.1.2.1, u32.1.1.2.2.1, u32.1.1.2.2.2), u32.1.2), (u32.2.1.1, u32.2.1.2.1, u32.2.1.2.2), (u32.2.2.1, u32.2.2.2.1, (u32.2.2.2.2.1 + (1 : Int32)), u32.2.2.2.2.2.1, u32.2.2.2.2.2.2.1, u32.2.2.2.2.2.2.2))) := hD
      refine lv_aload_n hx hb d_M_make_45 rfl (lv_at hl 0 rfl) ?_
      refine va_get (D := D) (ci := 4) (v := .int ((u32.2.2.2.2.1 + (1 : Int32)))) (C := R_M) (T := T_M) (N := 14) hx hb hts in_M hown hK hP 0 rfl rfl 8 (by decide) (hts _ wm_362) (fun _ h9 => h9) rfl d_M_make_46 ?_
      refine sw_tp (y := nI (n + 1)) (by rw [hu32]; show st.2.2.2.2.1 + 1 = _; rw [hn]; exact nI_1 _) ?_
      refine lv_aload_n hx hb d_M_make_49 rfl (lv_at hl 0 rfl) ?_
      refine va_get (D := D) (ci := 4) (v := .int u32.2.2.2.1) (C := R_M) (T := T_M) (N := 14) hx hb hts in_M hown hK hP 0 rfl rfl 9 (by decide) (hts _ wm_363) (fun _ h9 => h9) rfl d_M_make_50 ?_
      refine sw_tp (y := nI Ln) (by rw [hu32]; exact hL) ?_
      refine sw_nc_ge (a := n + 1) (b := Ln) (tgt := 57) hx hb (by omega) (by omega) d_M_make_53 (by decide) (fun h53 => ?_) (fun h53 => ?_)
      · skip
        refine lv_aload_n hx hb d_M_make_57 rfl (lv_at hl 0 rfl) ?_
        refine lv_bipush (v := 99) hx hb d_M_make_58 (by decide) ?_
        refine lv_aload_n hx hb d_M_make_60 rfl (lv_at hl 0 rfl) ?_
        refine lv_bipush (v := 96) hx hb d_M_make_61 (by decide) ?_
        refine lv_aload_n hx hb d_M_make_63 rfl (lv_at hl 0 rfl) ?_
        refine va_get (D := D) (ci := 4) (v := .int u32.2.2.1) (C := R_M) (T := T_M) (N := 14) hx hb hts in_M hown hK hP 0 rfl rfl 10 (by decide) (hts _ wm_364) (fun _ h9 => h9) rfl d_M_make_64 ?_
        refine sw_tp (y := st.2.2.1) (by rw [hu32]) ?_
        refine lv_aload_n hx hb d_M_make_67 rfl (lv_at hl 0 rfl) ?_
        refine va_get (D := D) (ci := 4) (v := .int u32.2.2.2.1) (C := R_M) (T := T_M) (N := 14) hx hb hts in_M hown hK hP 0 rfl rfl 9 (by decide) (hts _ wm_363) (fun _ h9 => h9) rfl d_M_make_68 ?_
        refine sw_tp (y := nI Ln) (by rw [hu32]; exact hL) ?_
        obtain ⟨v71, hv71⟩ : ∃ x : Ms, x = (((u32.1.1.1, u32.1.1.2.1, u32.1.1.2.2.1, u32.1.1.2.2.2), u32.1.2), (u32.2.1.1, u32.2.1.2.1, u32.2.1.2.2), (u32.2.2.1, u32.2.2.2.1, (u32.2.2.2.2.1 + (1 : Int32)), u32.2.2.2.2.2.1, u32.2.2.2.2.2.2.1, u32.2.2.2.2.2.2.2)) := ⟨_, rfl⟩
        have hP : va_P D vwC (MW cA aM aG v71) H := by rw [hv71]; exact hP
        have hD : va_D A (MW cA aM aG v71) := by rw [hv71]; exact hD
        refine sw_callVi (rest := [.int (99 : Int32), .ref aM]) 0 4 [.int (nI 96), .int st.2.2.1, .int (nI Ln)] hx hb hml hown hts hK hN hA hP hD hS (k_M_sum l D cA aM aG v71 _ 96 st.2.2.1 Ln (by omega) (by omega)) cw_M_56 rfl rfl rfl ⟨Nat.le_of_ble_eq_true rfl, Nat.le_of_ble_eq_true rfl⟩ hl.1 rfl rfl (Nat.le_of_ble_eq_true rfl) d_M_make_71 (fun r71 u71 H locs hq71 hP hD hS => ?_)
        obtain ⟨hr71, hq71⟩ := hq71
        rw [hr71]
        rw [hq71] at hP hD
        refine sw_callVv (rest := []) 0 4 [.int (nI 99), .int (psum v71.1.1.1 96 st.2.2.1 Ln)] hx hb hml hown hts hK hN hA hP hD hS (k_M_write l D cA aM aG v71 _ 99 (psum v71.1.1.1 96 st.2.2.1 Ln) (by omega)) cw_M_69 rfl rfl rfl ⟨Nat.le_of_ble_eq_true rfl, Nat.le_of_ble_eq_true rfl⟩ hl.1 rfl rfl (Nat.le_of_ble_eq_true rfl) d_M_make_74 (fun u74 H locs hq74 hP hD hS => ?_)
        have hu74 : u74 = (pwrite 99 (psum v71.1.1.1 96 st.2.2.1 Ln) v71.1, v71.2) := hq74
        refine lv_aload_n hx hb d_M_make_77 rfl (lv_at hl 0 rfl) ?_
        refine lv_bipush (v := 98) hx hb d_M_make_78 (by decide) ?_
        refine lv_aload_n hx hb d_M_make_80 rfl (lv_at hl 0 rfl) ?_
        refine va_get (D := D) (ci := 4) (v := .int u74.2.2.2.1) (C := R_M) (T := T_M) (N := 14) hx hb hts in_M hown hK hP 0 rfl rfl 9 (by decide) (hts _ wm_363) (fun _ h9 => h9) rfl d_M_make_81 ?_
        refine sw_tp (y := (nI Ln)) (by rw [hu74, hv71, hu32]; exact hL) ?_
        refine sw_callVv (rest := []) 0 4 [.int (nI 98), .int (nI Ln)] hx hb hml hown hts hK hN hA hP hD hS (k_M_write l D cA aM aG u74 _ 98 (nI Ln) (by omega)) cw_M_69 rfl rfl rfl ⟨Nat.le_of_ble_eq_true rfl, Nat.le_of_ble_eq_true rfl⟩ hl.1 rfl rfl (Nat.le_of_ble_eq_true rfl) d_M_make_84 (fun u84 H locs hq84 hP hD hS => ?_)
        have hu84 : u84 = (pwrite 98 (nI Ln) u74.1, u74.2) := hq84
        refine lv_aload_n hx hb d_M_make_87 rfl (lv_at hl 0 rfl) ?_
        refine lv_bipush (v := 97) hx hb d_M_make_88 (by decide) ?_
        refine lv_aload_n hx hb d_M_make_90 rfl (lv_at hl 0 rfl) ?_
        refine va_get (D := D) (ci := 4) (v := .int u84.2.2.1) (C := R_M) (T := T_M) (N := 14) hx hb hts in_M hown hK hP 0 rfl rfl 10 (by decide) (hts _ wm_364) (fun _ h9 => h9) rfl d_M_make_91 ?_
        refine sw_tp (y := st.2.2.1) (by rw [hu84, hu74, hv71, hu32]) ?_
        refine sw_callVv (rest := []) 0 4 [.int (nI 97), .int st.2.2.1] hx hb hml hown hts hK hN hA hP hD hS (k_M_write l D cA aM aG u84 _ 97 st.2.2.1 (by omega)) cw_M_69 rfl rfl rfl ⟨Nat.le_of_ble_eq_true rfl, Nat.le_of_ble_eq_true rfl⟩ hl.1 rfl rfl (Nat.le_of_ble_eq_true rfl) d_M_make_94 (fun u94 H locs hq94 hP hD hS => ?_)
        have hu94 : u94 = (pwrite 97 st.2.2.1 u84.1, u84.2) := hq94
        refine lv_aload_n hx hb d_M_make_97 rfl (lv_at hl 0 rfl) ?_
        refine lv_bipush (v := 96) hx hb d_M_make_98 (by decide) ?_
        refine lv_sipush (v := 165) hx hb d_M_make_100 (by decide) ?_
        refine sw_callVv (rest := []) 0 4 [.int (nI 96), .int (165 : Int32)] hx hb hml hown hts hK hN hA hP hD hS (k_M_write l D cA aM aG u94 _ 96 (165 : Int32) (by omega)) cw_M_69 rfl rfl rfl ⟨Nat.le_of_ble_eq_true rfl, Nat.le_of_ble_eq_true rfl⟩ hl.1 rfl rfl (Nat.le_of_ble_eq_true rfl) d_M_make_103 (fun u103 H locs hq103 hP hD hS => ?_)
        have hu103 : u103 = (pwrite 96 (165 : Int32) u94.1, u94.2) := hq103
        refine sw_vret (u := u103) hx hb hr hlk hK hP hD hS d_M_make_106 ?_
        show _ = mmake n Ln v st
        rw [show mmake n Ln v st = _ from (if_neg (fun q => q.elim h8 (fun q => by rw [h15] at q; cases q))).trans (if_neg (by omega)), hu103, hu94, hu84, hu74, hv71, hu32] <;> rfl
      · skip
        refine sw_vret (u := (((u32.1.1.1, u32.1.1.2.1, u32.1.1.2.2.1, u32.1.1.2.2.2), u32.1.2), (u32.2.1.1, u32.2.1.2.1, u32.2.1.2.2), (u32.2.2.1, u32.2.2.2.1, (u32.2.2.2.2.1 + (1 : Int32)), u32.2.2.2.2.2.1, u32.2.2.2.2.2.2.1, u32.2.2.2.2.2.2.2))) hx hb hr hlk hK hP hD hS d_M_make_56 ?_
        show _ = mmake n Ln v st
        rw [show mmake n Ln v st = _ from (if_neg (fun q => q.elim h8 (fun q => by rw [h15] at q; cases q))).trans (if_pos h53), hu32] <;> rfl
    · skip
      refine sw_vret (u := st) hx hb hr hlk hK hP hD hS d_M_make_18 ?_
      show _ = mmake n Ln v st
      rw [show mmake n Ln v st = st from if_pos (Or.inr h15)]
set_option maxHeartbeats 4000000 in
set_option maxRecDepth 100000 in
theorem k_M_copy (l : Launch) (D : va_G) (cA : ClassId) (aM aG : Nat) (st : Ms) (sz : Nat) (k n q Ln : Nat) (hn : st.2.2.2.2.1 = nI n) (hq : st.2.2.2.2.2.1 = nI q) (hL : st.2.2.2.1 = nI Ln) (h : n ≤ Ln) (h96 : Ln ≤ 96) (h4 : 4 ≤ Ln) (hq2 : q + k < 2 ^ 30) : Cv l y_M_copy b_M_copy 4 none 3 D cA (MW cA aM aG) st sz [.ref aM, .int (nI k)] (fun u => u = mcopy k n q Ln st) := by
  refine Cv.enter (by decide) (Nat.le_of_ble_eq_true rfl) ?_
  intro pr en s0 m0 ar bl me co A ls hx hb hml hr hlk hown hts hK hN hA hP hD hS hl
  have hl : lv_has ls 4 [(0, .ref aM), (1, .int (nI k))] := hl
  have hown : s0.vm.findClass R_M = some m0.cls := hown
  refine lv_iconst (v := 0) hx hb d_M_copy_0 (by decide) ?_
  refine lv_istore_n hx hb d_M_copy_1 rfl hl (by decide) rfl (fun ls hl => ?_)
  have hl : lv_has ls 4 [(2, .int (0 : Int32)), (0, .ref aM), (1, .int (nI k))] := hl
  have loop : ∀ (d : Nat) (i : Nat) (u : Ms) (H : Heap) (locs : List Loc) (ls : Array Slot), k - i = d → i ≤ k → mcopy (k - i) (n + i) (q + i) Ln u = mcopy k n q Ln st → u.2.2.2.2.1 = nI (n + i) → u.2.2.2.2.2.1 = nI (q + i) → u.2.2.2.1 = nI Ln → n + i ≤ Ln → lv_has ls 4 [(2, .int (nI i)), (0, .ref aM), (1, .int (nI k))] → va_P D vwC (MW cA aM aG u) H → va_D A (MW cA aM aG u) → va_S A s0.heap H locs → W pr l en (lvr 3) s0 m0 ar bl me co H locs 0 0 (MQ bl (va_Qv (fun u => u = mcopy k n q Ln st) (sw_B D cA A (MW cA aM aG)) A) ar s0 0 0 A) (F0 m0 2 ls []) := by
    intro d
    induction d using Nat.strongRecOn with
    | ind d ih =>
      intro i u H locs ls hd hi hT hn1 hq1 hL1 hle hl hP hD hS
      refine lv_iload_n hx hb d_M_copy_2 rfl (lv_at hl 0 rfl) ?_
      refine lv_iload_n hx hb d_M_copy_3 rfl (lv_at hl 2 rfl) ?_
      refine sw_nc_ge (a := i) (b := k) (tgt := 51) hx hb (by omega) (by omega) d_M_copy_4 (by decide) (fun h4 => ?_) (fun h4 => ?_)
      · skip
        refine sw_vret (u := u) hx hb hr hlk hK hP hD hS d_M_copy_51 ?_
        show u = mcopy k n q Ln st
        rw [← hT, show k - i = 0 by omega, mcopy_0]
      · skip
        refine lv_aload_n hx hb d_M_copy_7 rfl (lv_at hl 1 rfl) ?_
        refine va_get (D := D) (ci := 4) (v := .int u.2.2.2.2.1) (C := R_M) (T := T_M) (N := 14) hx hb hts in_M hown hK hP 0 rfl rfl 8 (by decide) (hts _ wm_362) (fun _ h9 => h9) rfl d_M_copy_8 ?_
        refine sw_tp (y := nI (n + i)) hn1 ?_
        refine lv_aload_n hx hb d_M_copy_11 rfl (lv_at hl 1 rfl) ?_
        refine va_get (D := D) (ci := 4) (v := .int u.2.2.2.1) (C := R_M) (T := T_M) (N := 14) hx hb hts in_M hown hK hP 0 rfl rfl 9 (by decide) (hts _ wm_363) (fun _ h9 => h9) rfl d_M_copy_12 ?_
        refine sw_tp (y := nI Ln) hL1 ?_
        refine sw_nc_ge (a := n + i) (b := Ln) (tgt := 51) hx hb (by omega) (by omega) d_M_copy_15 (by decide) (fun h15 => ?_) (fun h15 => ?_)
        · skip
          refine sw_vret (u := u) hx hb hr hlk hK hP hD hS d_M_copy_51 ?_
          show u = mcopy k n q Ln st
          rw [← hT, mcopy_stop (fun q => by omega)]
        · skip
          refine lv_aload_n hx hb d_M_copy_18 rfl (lv_at hl 1 rfl) ?_
          refine va_get (D := D) (ci := 4) (v := .int (b2i (u.1.2))) (C := R_M) (T := T_M) (N := 14) hx hb hts in_M hown hK hP 0 rfl rfl 5 (by decide) (hts _ wm_359) (fun _ h9 => h9) rfl d_M_copy_19 ?_
          refine sw_bz_ne (tgt := 51) hx hb d_M_copy_22 (by decide) (fun h22 => ?_) (fun h22 => ?_)
          · skip
            refine sw_vret (u := u) hx hb hr hlk hK hP hD hS d_M_copy_51 ?_
            show u = mcopy k n q Ln st
            rw [← hT, mcopy_stop (fun q => by rw [h22] at q; exact absurd q.2 (by decide))]
          · skip
            refine lv_aload_n hx hb d_M_copy_25 rfl (lv_at hl 1 rfl) ?_
            refine sw_callVi (rest := []) 0 4 [] hx hb hml hown hts hK hN hA hP hD hS (k_M_mainByte l D cA aM aG u _ (q + i) hq1 (by omega)) cw_M_110 rfl rfl rfl ⟨Nat.le_of_ble_eq_true rfl, Nat.le_of_ble_eq_true rfl⟩ hl.1 rfl rfl (Nat.le_of_ble_eq_true rfl) d_M_copy_26 (fun r26 u26 H locs hq26 hP hD hS => ?_)
            obtain ⟨hr26, hq26⟩ := hq26
            rw [hr26]
            rw [hq26] at hP hD
            refine lv_istore_n hx hb d_M_copy_29 rfl hl (by decide) rfl (fun ls hl => ?_)
            have hl : lv_has ls 4 [(3, .int (cmb u.1.1.1 (q + i))), (2, .int (nI i)), (0, .ref aM), (1, .int (nI k))] := hl
            refine lv_aload_n hx hb d_M_copy_30 rfl (lv_at hl 2 rfl) ?_
            refine lv_dup hx hb d_M_copy_31 rfl ?_
            refine va_get (D := D) (ci := 4) (v := .int u.2.2.2.2.2.1) (C := R_M) (T := T_M) (N := 14) hx hb hts in_M hown hK hP 0 rfl rfl 11 (by decide) (hts _ wm_365) (fun _ h9 => h9) rfl d_M_copy_32 ?_
            refine lv_iconst (v := 1) hx hb d_M_copy_35 (by decide) ?_
            refine lv_iadd hx hb d_M_copy_36 ?_
            refine va_put (D := D) (ci := 4) (v := .int (u.2.2.2.2.2.1 + (1 : Int32))) (ty := .int) (C := R_M) (T := T_M) (N := 14) hx hb hts in_M ty_M ty_M_ok nm_M hown hK hP hD hS 0 rfl rfl 11 (by decide) (hts _ wm_365) (fun _ h9 => h9) rfl (ty_M_ok 11 (by decide)) rfl rfl (Nat.le_of_ble_eq_true rfl) d_M_copy_37 (fun H locs hP hD hS => ?_)
            have hP : va_P D vwC (MW cA aM aG (((u.1.1.1, u.1.1.2.1, u.1.1.2.2.1, u.1.1.2.2.2), u.1.2), (u.2.1.1, u.2.1.2.1, u.2.1.2.2), (u.2.2.1, u.2.2.2.1, u.2.2.2.2.1, (u.2.2.2.2.2.1 + (1 : Int32)), u.2.2.2.2.2.2.1, u.2.2.2.2.2.2.2))) H := hP
            have hD : va_D A (MW cA aM aG (((u.1.1.1, u.1.1.2.1, u.1.1.2.2.1, u.1.1.2.2.2), u.1.2), (u.2.1.1, u.2.1.2.1, u.2.1.2.2), (u.2.2.1, u.2.2.2.1, u.2.2.2.2.1, (u.2.2.2.2.2.1 + (1 : Int32)), u.2.2.2.2.2.2.1, u.2.2.2.2.2.2.2))) := hD
            refine lv_aload_n hx hb d_M_copy_40 rfl (lv_at hl 2 rfl) ?_
            refine lv_iload_n hx hb d_M_copy_41 rfl (lv_at hl 0 rfl) ?_
            obtain ⟨v42, hv42⟩ : ∃ x : Ms, x = (((u.1.1.1, u.1.1.2.1, u.1.1.2.2.1, u.1.1.2.2.2), u.1.2), (u.2.1.1, u.2.1.2.1, u.2.1.2.2), (u.2.2.1, u.2.2.2.1, u.2.2.2.2.1, (u.2.2.2.2.2.1 + (1 : Int32)), u.2.2.2.2.2.2.1, u.2.2.2.2.2.2.2)) := ⟨_, rfl⟩
            have hP : va_P D vwC (MW cA aM aG v42) H := by rw [hv42]; exact hP
            have hD : va_D A (MW cA aM aG v42) := by rw [hv42]; exact hD
            refine sw_callVv (rest := []) 0 4 [.int (cmb u.1.1.1 (q + i))] hx hb hml hown hts hK hN hA hP hD hS (k_M_make l D cA aM aG v42 _ (n + i) Ln (cmb u.1.1.1 (q + i)) (by rw [hv42]; exact hn1) (by rw [hv42]; exact hL1) (by omega) (by omega) (by omega)) cw_M_114 rfl rfl rfl ⟨Nat.le_of_ble_eq_true rfl, Nat.le_of_ble_eq_true rfl⟩ hl.1 rfl rfl (Nat.le_of_ble_eq_true rfl) d_M_copy_42 (fun u42 H locs hq42 hP hD hS => ?_)
            have hu42 : u42 = mmake (n + i) Ln (cmb u.1.1.1 (q + i)) v42 := hq42
            refine lv_iinc (k := 1) (v := nI (i + 1)) hx hb d_M_copy_45 hl rfl (nI_1 _) (by decide) rfl (fun ls hl => ?_)
            have hl : lv_has ls 4 [(2, .int (nI (i + 1))), (3, .int (cmb u.1.1.1 (q + i))), (0, .ref aM), (1, .int (nI k))] := hl
            refine lv_goto (tgt := 2) hx hb d_M_copy_48 (by decide) ?_
            have ev : v42 = mplc u := hv42
            rw [ev] at hu42
            exact ih (k - (i + 1)) (by omega) (i + 1) u42 _ _ _ rfl (by omega) (by rw [← hT, mcopy_go (i := i) (by omega) (by omega) h22, hu42] <;> rfl) (by rw [hu42, mmake_nxt (s := mplc u) (by omega) h22]; show u.2.2.2.2.1 + 1 = _; rw [hn1]; exact nI_1 _) (by rw [hu42, mmake_plc]; show u.2.2.2.2.2.1 + 1 = _; rw [hq1]; exact nI_1 _) (by rw [hu42, mmake_len]; exact hL1) (by omega) (lv_sub hl [0, 2, 3] rfl) hP hD hS
  exact loop _ 0 st _ _ _ rfl (by omega) rfl hn hq hL h (lv_sub hl [0, 1, 2] rfl) hP hD hS
set_option maxHeartbeats 4000000 in
set_option maxRecDepth 100000 in
theorem k_M_command (l : Launch) (D : va_G) (cA : ClassId) (aM aG : Nat) (st : Ms) (sz : Nat) (c n q Ln : Nat) (hc : c < 256) (hn : st.2.2.2.2.1 = nI n) (hq : st.2.2.2.2.2.1 = nI q) (hL : st.2.2.2.1 = nI Ln) (h : n ≤ Ln) (h96 : Ln ≤ 96) (h4 : 4 ≤ Ln) (hq2 : q < 2 ^ 29) : Cv l y_M_command b_M_command 3 none 4 D cA (MW cA aM aG) st sz [.ref aM, .int (nI c)] (fun u => u = mcmd c n q Ln st) := by
  refine Cv.enter (by decide) (Nat.le_of_ble_eq_true rfl) ?_
  intro pr en s0 m0 ar bl me co A ls hx hb hml hr hlk hown hts hK hN hA hP hD hS hl
  have hl : lv_has ls 3 [(0, .ref aM), (1, .int (nI c))] := hl
  have hown : s0.vm.findClass R_M = some m0.cls := hown
  refine lv_iload_n hx hb d_M_command_0 rfl (lv_at hl 1 rfl) ?_
  refine lv_bipush (v := 64) hx hb d_M_command_1 (by decide) ?_
  refine lv_irem hx hb d_M_command_3 (by decide) ?_
  refine sw_tp (y := nI (c % 64)) (pk_rem (a := c) (d := 64) (by omega) (by decide) (by decide)) ?_
  refine lv_iconst (v := 1) hx hb d_M_command_4 (by decide) ?_
  refine lv_iadd hx hb d_M_command_5 ?_
  refine sw_tp (y := nI ((c % 64) + 1)) (nI_add (c % 64) 1) ?_
  refine lv_istore_n hx hb d_M_command_6 rfl hl (by decide) rfl (fun ls hl => ?_)
  have hl : lv_has ls 3 [(2, .int (nI ((c % 64) + 1))), (0, .ref aM), (1, .int (nI c))] := hl
  refine lv_aload_n hx hb d_M_command_7 rfl (lv_at hl 1 rfl) ?_
  refine lv_iload_n hx hb d_M_command_8 rfl (lv_at hl 0 rfl) ?_
  refine lv_aload_n hx hb d_M_command_9 rfl (lv_at hl 1 rfl) ?_
  refine va_get (D := D) (ci := 4) (v := .int st.2.2.2.1) (C := R_M) (T := T_M) (N := 14) hx hb hts in_M hown hK hP 0 rfl rfl 9 (by decide) (hts _ wm_363) (fun _ h9 => h9) rfl d_M_command_10 ?_
  refine sw_tp (y := nI Ln) hL ?_
  refine lv_aload_n hx hb d_M_command_13 rfl (lv_at hl 1 rfl) ?_
  refine va_get (D := D) (ci := 4) (v := .int st.2.2.2.2.1) (C := R_M) (T := T_M) (N := 14) hx hb hts in_M hown hK hP 0 rfl rfl 8 (by decide) (hts _ wm_362) (fun _ h9 => h9) rfl d_M_command_14 ?_
  refine sw_tp (y := nI n) hn ?_
  refine lv_isub hx hb d_M_command_17 ?_
  refine sw_tp (y := nI (Ln - n)) (pk_sub (a := Ln) (b := n) (by omega)) ?_
  refine sw_nc_ge (a := (c % 64) + 1) (b := Ln - n) (tgt := 25) hx hb (by omega) (by omega) d_M_command_18 (by decide) (fun h18 => ?_) (fun h18 => ?_)
  · skip
    refine lv_aload_n hx hb d_M_command_25 rfl (lv_at hl 1 rfl) ?_
    refine va_get (D := D) (ci := 4) (v := .int st.2.2.2.1) (C := R_M) (T := T_M) (N := 14) hx hb hts in_M hown hK hP 0 rfl rfl 9 (by decide) (hts _ wm_363) (fun _ h9 => h9) rfl d_M_command_26 ?_
    refine sw_tp (y := nI Ln) hL ?_
    refine lv_aload_n hx hb d_M_command_29 rfl (lv_at hl 1 rfl) ?_
    refine va_get (D := D) (ci := 4) (v := .int st.2.2.2.2.1) (C := R_M) (T := T_M) (N := 14) hx hb hts in_M hown hK hP 0 rfl rfl 8 (by decide) (hts _ wm_362) (fun _ h9 => h9) rfl d_M_command_30 ?_
    refine sw_tp (y := nI n) hn ?_
    refine lv_isub hx hb d_M_command_33 ?_
    refine sw_tp (y := nI (Ln - n)) (pk_sub (a := Ln) (b := n) (by omega)) ?_
    refine va_put (D := D) (ci := 4) (v := .int (nI (Ln - n))) (ty := .int) (C := R_M) (T := T_M) (N := 14) hx hb hts in_M ty_M ty_M_ok nm_M hown hK hP hD hS 0 rfl rfl 13 (by decide) (hts _ wm_367) (fun _ h9 => h9) rfl (ty_M_ok 13 (by decide)) rfl rfl (Nat.le_of_ble_eq_true rfl) d_M_command_34 (fun H locs hP hD hS => ?_)
    have hP : va_P D vwC (MW cA aM aG (((st.1.1.1, st.1.1.2.1, st.1.1.2.2.1, st.1.1.2.2.2), st.1.2), (st.2.1.1, st.2.1.2.1, st.2.1.2.2), (st.2.2.1, st.2.2.2.1, st.2.2.2.2.1, st.2.2.2.2.2.1, st.2.2.2.2.2.2.1, nI (Ln - n)))) H := hP
    have hD : va_D A (MW cA aM aG (((st.1.1.1, st.1.1.2.1, st.1.1.2.2.1, st.1.1.2.2.2), st.1.2), (st.2.1.1, st.2.1.2.1, st.2.1.2.2), (st.2.2.1, st.2.2.2.1, st.2.2.2.2.1, st.2.2.2.2.2.1, st.2.2.2.2.2.2.1, nI (Ln - n)))) := hD
    refine lv_iload_n hx hb d_M_command_37 rfl (lv_at hl 2 rfl) ?_
    refine lv_bipush (v := 64) hx hb d_M_command_38 (by decide) ?_
    refine sw_nc_ge (a := c) (b := 64) (tgt := 51) hx hb (by omega) (by omega) d_M_command_40 (by decide) (fun h40 => ?_) (fun h40 => ?_)
    · skip
      refine lv_aload_n hx hb d_M_command_51 rfl (lv_at hl 1 rfl) ?_
      refine lv_iload_n hx hb d_M_command_52 rfl (lv_at hl 2 rfl) ?_
      refine lv_bipush (v := 64) hx hb d_M_command_53 (by decide) ?_
      refine lv_idiv hx hb d_M_command_55 (by decide) ?_
      refine sw_tp (y := nI (c / 64)) (pk_div (a := c) (d := 64) (by omega) (by decide) (by decide)) ?_
      refine va_put (D := D) (ci := 4) (v := .int (nI (c / 64))) (ty := .int) (C := R_M) (T := T_M) (N := 14) hx hb hts in_M ty_M ty_M_ok nm_M hown hK hP hD hS 0 rfl rfl 12 (by decide) (hts _ wm_366) (fun _ h9 => h9) rfl (ty_M_ok 12 (by decide)) rfl rfl (Nat.le_of_ble_eq_true rfl) d_M_command_56 (fun H locs hP hD hS => ?_)
      have hP : va_P D vwC (MW cA aM aG (((st.1.1.1, st.1.1.2.1, st.1.1.2.2.1, st.1.1.2.2.2), st.1.2), (st.2.1.1, st.2.1.2.1, st.2.1.2.2), (st.2.2.1, st.2.2.2.1, st.2.2.2.2.1, st.2.2.2.2.2.1, nI (c / 64), nI (Ln - n)))) H := hP
      have hD : va_D A (MW cA aM aG (((st.1.1.1, st.1.1.2.1, st.1.1.2.2.1, st.1.1.2.2.2), st.1.2), (st.2.1.1, st.2.1.2.1, st.2.1.2.2), (st.2.2.1, st.2.2.2.1, st.2.2.2.2.1, st.2.2.2.2.2.1, nI (c / 64), nI (Ln - n)))) := hD
      refine sw_vret (u := (((st.1.1.1, st.1.1.2.1, st.1.1.2.2.1, st.1.1.2.2.2), st.1.2), (st.2.1.1, st.2.1.2.1, st.2.1.2.2), (st.2.2.1, st.2.2.2.1, st.2.2.2.2.1, st.2.2.2.2.2.1, nI (c / 64), nI (Ln - n)))) hx hb hr hlk hK hP hD hS d_M_command_59 ?_
      have e := show mcmd c n q Ln st = _ from if_neg (by omega)
      rw [show mmore c Ln n = Ln - n from if_pos h18] at e
      exact e.symm
    · skip
      refine lv_aload_n hx hb d_M_command_43 rfl (lv_at hl 1 rfl) ?_
      refine lv_iload_n hx hb d_M_command_44 rfl (lv_at hl 0 rfl) ?_
      obtain ⟨v45, hv45⟩ : ∃ x : Ms, x = (((st.1.1.1, st.1.1.2.1, st.1.1.2.2.1, st.1.1.2.2.2), st.1.2), (st.2.1.1, st.2.1.2.1, st.2.1.2.2), (st.2.2.1, st.2.2.2.1, st.2.2.2.2.1, st.2.2.2.2.2.1, st.2.2.2.2.2.2.1, nI (Ln - n))) := ⟨_, rfl⟩
      have hP : va_P D vwC (MW cA aM aG v45) H := by rw [hv45]; exact hP
      have hD : va_D A (MW cA aM aG v45) := by rw [hv45]; exact hD
      refine sw_callVv (rest := []) 0 4 [.int (nI ((c % 64) + 1))] hx hb hml hown hts hK hN hA hP hD hS (k_M_copy l D cA aM aG v45 _ ((c % 64) + 1) n q Ln (by rw [hv45]; exact hn) (by rw [hv45]; exact hq) (by rw [hv45]; exact hL) (by omega) (by omega) (by omega) (by omega)) cw_M_120 rfl rfl rfl ⟨Nat.le_of_ble_eq_true rfl, Nat.le_of_ble_eq_true rfl⟩ hl.1 rfl rfl (Nat.le_of_ble_eq_true rfl) d_M_command_45 (fun u45 H locs hq45 hP hD hS => ?_)
      have hu45 : u45 = mcopy ((c % 64) + 1) n q Ln v45 := hq45
      refine lv_goto (tgt := 59) hx hb d_M_command_48 (by decide) ?_
      refine sw_vret (u := u45) hx hb hr hlk hK hP hD hS d_M_command_59 ?_
      have e := show mcmd c n q Ln st = _ from if_pos h40
      rw [show mmore c Ln n = Ln - n from if_pos h18] at e
      subst hv45
      exact hu45.trans e.symm
  · skip
    refine lv_iload_n hx hb d_M_command_21 rfl (lv_at hl 0 rfl) ?_
    refine lv_goto (tgt := 34) hx hb d_M_command_22 (by decide) ?_
    refine va_put (D := D) (ci := 4) (v := .int (nI ((c % 64) + 1))) (ty := .int) (C := R_M) (T := T_M) (N := 14) hx hb hts in_M ty_M ty_M_ok nm_M hown hK hP hD hS 0 rfl rfl 13 (by decide) (hts _ wm_367) (fun _ h9 => h9) rfl (ty_M_ok 13 (by decide)) rfl rfl (Nat.le_of_ble_eq_true rfl) d_M_command_34 (fun H locs hP hD hS => ?_)
    have hP : va_P D vwC (MW cA aM aG (((st.1.1.1, st.1.1.2.1, st.1.1.2.2.1, st.1.1.2.2.2), st.1.2), (st.2.1.1, st.2.1.2.1, st.2.1.2.2), (st.2.2.1, st.2.2.2.1, st.2.2.2.2.1, st.2.2.2.2.2.1, st.2.2.2.2.2.2.1, nI ((c % 64) + 1)))) H := hP
    have hD : va_D A (MW cA aM aG (((st.1.1.1, st.1.1.2.1, st.1.1.2.2.1, st.1.1.2.2.2), st.1.2), (st.2.1.1, st.2.1.2.1, st.2.1.2.2), (st.2.2.1, st.2.2.2.1, st.2.2.2.2.1, st.2.2.2.2.2.1, st.2.2.2.2.2.2.1, nI ((c % 64) + 1)))) := hD
    refine lv_iload_n hx hb d_M_command_37 rfl (lv_at hl 2 rfl) ?_
    refine lv_bipush (v := 64) hx hb d_M_command_38 (by decide) ?_
    refine sw_nc_ge (a := c) (b := 64) (tgt := 51) hx hb (by omega) (by omega) d_M_command_40 (by decide) (fun h40 => ?_) (fun h40 => ?_)
    · skip
      refine lv_aload_n hx hb d_M_command_51 rfl (lv_at hl 1 rfl) ?_
      refine lv_iload_n hx hb d_M_command_52 rfl (lv_at hl 2 rfl) ?_
      refine lv_bipush (v := 64) hx hb d_M_command_53 (by decide) ?_
      refine lv_idiv hx hb d_M_command_55 (by decide) ?_
      refine sw_tp (y := nI (c / 64)) (pk_div (a := c) (d := 64) (by omega) (by decide) (by decide)) ?_
      refine va_put (D := D) (ci := 4) (v := .int (nI (c / 64))) (ty := .int) (C := R_M) (T := T_M) (N := 14) hx hb hts in_M ty_M ty_M_ok nm_M hown hK hP hD hS 0 rfl rfl 12 (by decide) (hts _ wm_366) (fun _ h9 => h9) rfl (ty_M_ok 12 (by decide)) rfl rfl (Nat.le_of_ble_eq_true rfl) d_M_command_56 (fun H locs hP hD hS => ?_)
      have hP : va_P D vwC (MW cA aM aG (((st.1.1.1, st.1.1.2.1, st.1.1.2.2.1, st.1.1.2.2.2), st.1.2), (st.2.1.1, st.2.1.2.1, st.2.1.2.2), (st.2.2.1, st.2.2.2.1, st.2.2.2.2.1, st.2.2.2.2.2.1, nI (c / 64), nI ((c % 64) + 1)))) H := hP
      have hD : va_D A (MW cA aM aG (((st.1.1.1, st.1.1.2.1, st.1.1.2.2.1, st.1.1.2.2.2), st.1.2), (st.2.1.1, st.2.1.2.1, st.2.1.2.2), (st.2.2.1, st.2.2.2.1, st.2.2.2.2.1, st.2.2.2.2.2.1, nI (c / 64), nI ((c % 64) + 1)))) := hD
      refine sw_vret (u := (((st.1.1.1, st.1.1.2.1, st.1.1.2.2.1, st.1.1.2.2.2), st.1.2), (st.2.1.1, st.2.1.2.1, st.2.1.2.2), (st.2.2.1, st.2.2.2.1, st.2.2.2.2.1, st.2.2.2.2.2.1, nI (c / 64), nI ((c % 64) + 1)))) hx hb hr hlk hK hP hD hS d_M_command_59 ?_
      have e := show mcmd c n q Ln st = _ from if_neg (by omega)
      rw [show mmore c Ln n = c % 64 + 1 from if_neg (by omega)] at e
      exact e.symm
    · skip
      refine lv_aload_n hx hb d_M_command_43 rfl (lv_at hl 1 rfl) ?_
      refine lv_iload_n hx hb d_M_command_44 rfl (lv_at hl 0 rfl) ?_
      obtain ⟨v45, hv45⟩ : ∃ x : Ms, x = (((st.1.1.1, st.1.1.2.1, st.1.1.2.2.1, st.1.1.2.2.2), st.1.2), (st.2.1.1, st.2.1.2.1, st.2.1.2.2), (st.2.2.1, st.2.2.2.1, st.2.2.2.2.1, st.2.2.2.2.2.1, st.2.2.2.2.2.2.1, nI ((c % 64) + 1))) := ⟨_, rfl⟩
      have hP : va_P D vwC (MW cA aM aG v45) H := by rw [hv45]; exact hP
      have hD : va_D A (MW cA aM aG v45) := by rw [hv45]; exact hD
      refine sw_callVv (rest := []) 0 4 [.int (nI ((c % 64) + 1))] hx hb hml hown hts hK hN hA hP hD hS (k_M_copy l D cA aM aG v45 _ ((c % 64) + 1) n q Ln (by rw [hv45]; exact hn) (by rw [hv45]; exact hq) (by rw [hv45]; exact hL) (by omega) (by omega) (by omega) (by omega)) cw_M_120 rfl rfl rfl ⟨Nat.le_of_ble_eq_true rfl, Nat.le_of_ble_eq_true rfl⟩ hl.1 rfl rfl (Nat.le_of_ble_eq_true rfl) d_M_command_45 (fun u45 H locs hq45 hP hD hS => ?_)
      have hu45 : u45 = mcopy ((c % 64) + 1) n q Ln v45 := hq45
      refine lv_goto (tgt := 59) hx hb d_M_command_48 (by decide) ?_
      refine sw_vret (u := u45) hx hb hr hlk hK hP hD hS d_M_command_59 ?_
      have e := show mcmd c n q Ln st = _ from if_pos h40
      rw [show mmore c Ln n = c % 64 + 1 from if_neg (by omega)] at e
      subst hv45
      exact hu45.trans e.symm
set_option maxHeartbeats 4000000 in
set_option maxRecDepth 100000 in
theorem k_M_take (l : Launch) (D : va_G) (cA : ClassId) (aM aG : Nat) (st : Ms) (sz : Nat) (c n q Ln : Nat) (hc : c < 256) (hn : st.2.2.2.2.1 = nI n) (hq : st.2.2.2.2.2.1 = nI q) (hL : st.2.2.2.1 = nI Ln) (h : n ≤ Ln) (h96 : Ln ≤ 96) (h40 : 4 ≤ Ln) (hq2 : q < 2 ^ 29) : Cv l y_M_take b_M_take 3 none 5 D cA (MW cA aM aG) st sz [.ref aM, .int (nI c)] (fun u => u = mtk c n q Ln st) := by
  refine Cv.enter (by decide) (Nat.le_of_ble_eq_true rfl) ?_
  intro pr en s0 m0 ar bl me co A ls hx hb hml hr hlk hown hts hK hN hA hP hD hS hl
  have hl : lv_has ls 3 [(0, .ref aM), (1, .int (nI c))] := hl
  have hown : s0.vm.findClass R_M = some m0.cls := hown
  refine lv_aload_n hx hb d_M_take_0 rfl (lv_at hl 0 rfl) ?_
  refine va_get (D := D) (ci := 4) (v := .int st.2.2.2.2.2.2.1) (C := R_M) (T := T_M) (N := 14) hx hb hts in_M hown hK hP 0 rfl rfl 12 (by decide) (hts _ wm_366) (fun _ h9 => h9) rfl d_M_take_1 ?_
  refine lv_if_ne (tgt := 13) hx hb d_M_take_4 (by decide) (fun h4 => ?_) (fun h4 => ?_)
  · skip
    refine lv_aload_n hx hb d_M_take_13 rfl (lv_at hl 0 rfl) ?_
    refine va_get (D := D) (ci := 4) (v := .int st.2.2.2.2.2.2.1) (C := R_M) (T := T_M) (N := 14) hx hb hts in_M hown hK hP 0 rfl rfl 12 (by decide) (hts _ wm_366) (fun _ h9 => h9) rfl d_M_take_14 ?_
    refine lv_iconst (v := 1) hx hb d_M_take_17 (by decide) ?_
    refine lv_icmp_ne (tgt := 32) hx hb d_M_take_18 (by decide) (fun h18 => ?_) (fun h18 => ?_)
    · skip
      refine lv_aload_n hx hb d_M_take_32 rfl (lv_at hl 0 rfl) ?_
      refine va_get (D := D) (ci := 4) (v := .int st.2.2.2.2.2.2.1) (C := R_M) (T := T_M) (N := 14) hx hb hts in_M hown hK hP 0 rfl rfl 12 (by decide) (hts _ wm_366) (fun _ h9 => h9) rfl d_M_take_33 ?_
      refine lv_iconst (v := 2) hx hb d_M_take_36 (by decide) ?_
      refine lv_icmp_ne (tgt := 44) hx hb d_M_take_37 (by decide) (fun h37 => ?_) (fun h37 => ?_)
      · skip
        refine lv_iload_n hx hb d_M_take_44 rfl (lv_at hl 1 rfl) ?_
        refine lv_aload_n hx hb d_M_take_45 rfl (lv_at hl 0 rfl) ?_
        refine sw_callVi (rest := [.int (nI c)]) 0 4 [] hx hb hml hown hts hK hN hA hP hD hS (k_M_mainByte l D cA aM aG st _ q hq (by omega)) cw_M_110 rfl rfl rfl ⟨Nat.le_of_ble_eq_true rfl, Nat.le_of_ble_eq_true rfl⟩ hl.1 rfl rfl (Nat.le_of_ble_eq_true rfl) d_M_take_46 (fun r46 u46 H locs hq46 hP hD hS => ?_)
        obtain ⟨hr46, hq46⟩ := hq46
        rw [hr46]
        rw [hq46] at hP hD
        refine lv_iadd hx hb d_M_take_49 ?_
        refine lv_istore_n hx hb d_M_take_50 rfl hl (by decide) rfl (fun ls hl => ?_)
        have hl : lv_has ls 3 [(2, .int ((nI c) + (cmb st.1.1.1 q))), (0, .ref aM), (1, .int (nI c))] := hl
        refine lv_aload_n hx hb d_M_take_51 rfl (lv_at hl 1 rfl) ?_
        refine lv_dup hx hb d_M_take_52 rfl ?_
        refine va_get (D := D) (ci := 4) (v := .int st.2.2.2.2.2.1) (C := R_M) (T := T_M) (N := 14) hx hb hts in_M hown hK hP 0 rfl rfl 11 (by decide) (hts _ wm_365) (fun _ h9 => h9) rfl d_M_take_53 ?_
        refine lv_aload_n hx hb d_M_take_56 rfl (lv_at hl 1 rfl) ?_
        refine va_get (D := D) (ci := 4) (v := .int st.2.2.2.2.2.2.1) (C := R_M) (T := T_M) (N := 14) hx hb hts in_M hown hK hP 0 rfl rfl 12 (by decide) (hts _ wm_366) (fun _ h9 => h9) rfl d_M_take_57 ?_
        refine lv_iconst (v := 3) hx hb d_M_take_60 (by decide) ?_
        refine lv_icmp_ne (tgt := 68) hx hb d_M_take_61 (by decide) (fun h61 => ?_) (fun h61 => ?_)
        · skip
          refine lv_iconst (v := 0) hx hb d_M_take_68 (by decide) ?_
          refine lv_iadd hx hb d_M_take_69 ?_
          refine va_put (D := D) (ci := 4) (v := .int (st.2.2.2.2.2.1 + (0 : Int32))) (ty := .int) (C := R_M) (T := T_M) (N := 14) hx hb hts in_M ty_M ty_M_ok nm_M hown hK hP hD hS 0 rfl rfl 11 (by decide) (hts _ wm_365) (fun _ h9 => h9) rfl (ty_M_ok 11 (by decide)) rfl rfl (Nat.le_of_ble_eq_true rfl) d_M_take_70 (fun H locs hP hD hS => ?_)
          have hP : va_P D vwC (MW cA aM aG (((st.1.1.1, st.1.1.2.1, st.1.1.2.2.1, st.1.1.2.2.2), st.1.2), (st.2.1.1, st.2.1.2.1, st.2.1.2.2), (st.2.2.1, st.2.2.2.1, st.2.2.2.2.1, (st.2.2.2.2.2.1 + (0 : Int32)), st.2.2.2.2.2.2.1, st.2.2.2.2.2.2.2))) H := hP
          have hD : va_D A (MW cA aM aG (((st.1.1.1, st.1.1.2.1, st.1.1.2.2.1, st.1.1.2.2.2), st.1.2), (st.2.1.1, st.2.1.2.1, st.2.1.2.2), (st.2.2.1, st.2.2.2.1, st.2.2.2.2.1, (st.2.2.2.2.2.1 + (0 : Int32)), st.2.2.2.2.2.2.1, st.2.2.2.2.2.2.2))) := hD
          refine lv_aload_n hx hb d_M_take_73 rfl (lv_at hl 1 rfl) ?_
          refine lv_dup hx hb d_M_take_74 rfl ?_
          refine va_get (D := D) (ci := 4) (v := .int st.2.2.2.2.2.2.2) (C := R_M) (T := T_M) (N := 14) hx hb hts in_M hown hK hP 0 rfl rfl 13 (by decide) (hts _ wm_367) (fun _ h9 => h9) rfl d_M_take_75 ?_
          refine lv_iconst (v := 1) hx hb d_M_take_78 (by decide) ?_
          refine lv_isub hx hb d_M_take_79 ?_
          refine va_put (D := D) (ci := 4) (v := .int (st.2.2.2.2.2.2.2 - (1 : Int32))) (ty := .int) (C := R_M) (T := T_M) (N := 14) hx hb hts in_M ty_M ty_M_ok nm_M hown hK hP hD hS 0 rfl rfl 13 (by decide) (hts _ wm_367) (fun _ h9 => h9) rfl (ty_M_ok 13 (by decide)) rfl rfl (Nat.le_of_ble_eq_true rfl) d_M_take_80 (fun H locs hP hD hS => ?_)
          have hP : va_P D vwC (MW cA aM aG (((st.1.1.1, st.1.1.2.1, st.1.1.2.2.1, st.1.1.2.2.2), st.1.2), (st.2.1.1, st.2.1.2.1, st.2.1.2.2), (st.2.2.1, st.2.2.2.1, st.2.2.2.2.1, (st.2.2.2.2.2.1 + (0 : Int32)), st.2.2.2.2.2.2.1, (st.2.2.2.2.2.2.2 - (1 : Int32))))) H := hP
          have hD : va_D A (MW cA aM aG (((st.1.1.1, st.1.1.2.1, st.1.1.2.2.1, st.1.1.2.2.2), st.1.2), (st.2.1.1, st.2.1.2.1, st.2.1.2.2), (st.2.2.1, st.2.2.2.1, st.2.2.2.2.1, (st.2.2.2.2.2.1 + (0 : Int32)), st.2.2.2.2.2.2.1, (st.2.2.2.2.2.2.2 - (1 : Int32))))) := hD
          refine lv_aload_n hx hb d_M_take_83 rfl (lv_at hl 1 rfl) ?_
          refine lv_aload_n hx hb d_M_take_84 rfl (lv_at hl 1 rfl) ?_
          refine va_get (D := D) (ci := 4) (v := .int ((st.2.2.2.2.2.2.2 - (1 : Int32)))) (C := R_M) (T := T_M) (N := 14) hx hb hts in_M hown hK hP 0 rfl rfl 13 (by decide) (hts _ wm_367) (fun _ h9 => h9) rfl d_M_take_85 ?_
          refine lv_if_ne (tgt := 95) hx hb d_M_take_88 (by decide) (fun h88 => ?_) (fun h88 => ?_)
          · skip
            refine lv_aload_n hx hb d_M_take_95 rfl (lv_at hl 1 rfl) ?_
            refine va_get (D := D) (ci := 4) (v := .int st.2.2.2.2.2.2.1) (C := R_M) (T := T_M) (N := 14) hx hb hts in_M hown hK hP 0 rfl rfl 12 (by decide) (hts _ wm_366) (fun _ h9 => h9) rfl d_M_take_96 ?_
            refine va_put (D := D) (ci := 4) (v := .int st.2.2.2.2.2.2.1) (ty := .int) (C := R_M) (T := T_M) (N := 14) hx hb hts in_M ty_M ty_M_ok nm_M hown hK hP hD hS 0 rfl rfl 12 (by decide) (hts _ wm_366) (fun _ h9 => h9) rfl (ty_M_ok 12 (by decide)) rfl rfl (Nat.le_of_ble_eq_true rfl) d_M_take_99 (fun H locs hP hD hS => ?_)
            have hP : va_P D vwC (MW cA aM aG (((st.1.1.1, st.1.1.2.1, st.1.1.2.2.1, st.1.1.2.2.2), st.1.2), (st.2.1.1, st.2.1.2.1, st.2.1.2.2), (st.2.2.1, st.2.2.2.1, st.2.2.2.2.1, (st.2.2.2.2.2.1 + (0 : Int32)), st.2.2.2.2.2.2.1, (st.2.2.2.2.2.2.2 - (1 : Int32))))) H := hP
            have hD : va_D A (MW cA aM aG (((st.1.1.1, st.1.1.2.1, st.1.1.2.2.1, st.1.1.2.2.2), st.1.2), (st.2.1.1, st.2.1.2.1, st.2.1.2.2), (st.2.2.1, st.2.2.2.1, st.2.2.2.2.1, (st.2.2.2.2.2.1 + (0 : Int32)), st.2.2.2.2.2.2.1, (st.2.2.2.2.2.2.2 - (1 : Int32))))) := hD
            refine lv_aload_n hx hb d_M_take_102 rfl (lv_at hl 1 rfl) ?_
            refine lv_iload_n hx hb d_M_take_103 rfl (lv_at hl 0 rfl) ?_
            obtain ⟨v104, hv104⟩ : ∃ x : Ms, x = (((st.1.1.1, st.1.1.2.1, st.1.1.2.2.1, st.1.1.2.2.2), st.1.2), (st.2.1.1, st.2.1.2.1, st.2.1.2.2), (st.2.2.1, st.2.2.2.1, st.2.2.2.2.1, (st.2.2.2.2.2.1 + (0 : Int32)), st.2.2.2.2.2.2.1, (st.2.2.2.2.2.2.2 - (1 : Int32)))) := ⟨_, rfl⟩
            have hP : va_P D vwC (MW cA aM aG v104) H := by rw [hv104]; exact hP
            have hD : va_D A (MW cA aM aG v104) := by rw [hv104]; exact hD
            refine sw_callVv (rest := []) 0 4 [.int ((nI c) + (cmb st.1.1.1 q))] hx hb hml hown hts hK hN hA hP hD hS (k_M_make l D cA aM aG v104 _ n Ln ((nI c) + (cmb st.1.1.1 q)) (by rw [hv104]; exact hn) (by rw [hv104]; exact hL) (by omega) (by omega) (by omega)) cw_M_114 rfl rfl rfl ⟨Nat.le_of_ble_eq_true rfl, Nat.le_of_ble_eq_true rfl⟩ hl.1 rfl rfl (Nat.le_of_ble_eq_true rfl) d_M_take_104 (fun u104 H locs hq104 hP hD hS => ?_)
            have hu104 : u104 = mmake n Ln ((nI c) + (cmb st.1.1.1 q)) v104 := hq104
            refine sw_vret (u := u104) hx hb hr hlk hK hP hD hS d_M_take_107 ?_
            subst hv104
            rw [i32_add0] at hu104
            have e := show mtk c n q Ln st = _ from (if_neg h4).trans ((if_neg h18).trans ((if_neg h37).trans (if_neg h61)))
            rw [mcnt_nz h88] at e
            exact hu104.trans e.symm
          · skip
            refine lv_iconst (v := 0) hx hb d_M_take_91 (by decide) ?_
            refine lv_goto (tgt := 99) hx hb d_M_take_92 (by decide) ?_
            refine va_put (D := D) (ci := 4) (v := .int (0 : Int32)) (ty := .int) (C := R_M) (T := T_M) (N := 14) hx hb hts in_M ty_M ty_M_ok nm_M hown hK hP hD hS 0 rfl rfl 12 (by decide) (hts _ wm_366) (fun _ h9 => h9) rfl (ty_M_ok 12 (by decide)) rfl rfl (Nat.le_of_ble_eq_true rfl) d_M_take_99 (fun H locs hP hD hS => ?_)
            have hP : va_P D vwC (MW cA aM aG (((st.1.1.1, st.1.1.2.1, st.1.1.2.2.1, st.1.1.2.2.2), st.1.2), (st.2.1.1, st.2.1.2.1, st.2.1.2.2), (st.2.2.1, st.2.2.2.1, st.2.2.2.2.1, (st.2.2.2.2.2.1 + (0 : Int32)), (0 : Int32), (st.2.2.2.2.2.2.2 - (1 : Int32))))) H := hP
            have hD : va_D A (MW cA aM aG (((st.1.1.1, st.1.1.2.1, st.1.1.2.2.1, st.1.1.2.2.2), st.1.2), (st.2.1.1, st.2.1.2.1, st.2.1.2.2), (st.2.2.1, st.2.2.2.1, st.2.2.2.2.1, (st.2.2.2.2.2.1 + (0 : Int32)), (0 : Int32), (st.2.2.2.2.2.2.2 - (1 : Int32))))) := hD
            refine lv_aload_n hx hb d_M_take_102 rfl (lv_at hl 1 rfl) ?_
            refine lv_iload_n hx hb d_M_take_103 rfl (lv_at hl 0 rfl) ?_
            obtain ⟨v104, hv104⟩ : ∃ x : Ms, x = (((st.1.1.1, st.1.1.2.1, st.1.1.2.2.1, st.1.1.2.2.2), st.1.2), (st.2.1.1, st.2.1.2.1, st.2.1.2.2), (st.2.2.1, st.2.2.2.1, st.2.2.2.2.1, (st.2.2.2.2.2.1 + (0 : Int32)), (0 : Int32), (st.2.2.2.2.2.2.2 - (1 : Int32)))) := ⟨_, rfl⟩
            have hP : va_P D vwC (MW cA aM aG v104) H := by rw [hv104]; exact hP
            have hD : va_D A (MW cA aM aG v104) := by rw [hv104]; exact hD
            refine sw_callVv (rest := []) 0 4 [.int ((nI c) + (cmb st.1.1.1 q))] hx hb hml hown hts hK hN hA hP hD hS (k_M_make l D cA aM aG v104 _ n Ln ((nI c) + (cmb st.1.1.1 q)) (by rw [hv104]; exact hn) (by rw [hv104]; exact hL) (by omega) (by omega) (by omega)) cw_M_114 rfl rfl rfl ⟨Nat.le_of_ble_eq_true rfl, Nat.le_of_ble_eq_true rfl⟩ hl.1 rfl rfl (Nat.le_of_ble_eq_true rfl) d_M_take_104 (fun u104 H locs hq104 hP hD hS => ?_)
            have hu104 : u104 = mmake n Ln ((nI c) + (cmb st.1.1.1 q)) v104 := hq104
            refine sw_vret (u := u104) hx hb hr hlk hK hP hD hS d_M_take_107 ?_
            subst hv104
            rw [i32_add0] at hu104
            have e := show mtk c n q Ln st = _ from (if_neg h4).trans ((if_neg h18).trans ((if_neg h37).trans (if_neg h61)))
            rw [mcnt_z h88] at e
            exact hu104.trans e.symm
        · skip
          refine lv_iconst (v := 1) hx hb d_M_take_64 (by decide) ?_
          refine lv_goto (tgt := 69) hx hb d_M_take_65 (by decide) ?_
          refine lv_iadd hx hb d_M_take_69 ?_
          refine va_put (D := D) (ci := 4) (v := .int (st.2.2.2.2.2.1 + (1 : Int32))) (ty := .int) (C := R_M) (T := T_M) (N := 14) hx hb hts in_M ty_M ty_M_ok nm_M hown hK hP hD hS 0 rfl rfl 11 (by decide) (hts _ wm_365) (fun _ h9 => h9) rfl (ty_M_ok 11 (by decide)) rfl rfl (Nat.le_of_ble_eq_true rfl) d_M_take_70 (fun H locs hP hD hS => ?_)
          have hP : va_P D vwC (MW cA aM aG (((st.1.1.1, st.1.1.2.1, st.1.1.2.2.1, st.1.1.2.2.2), st.1.2), (st.2.1.1, st.2.1.2.1, st.2.1.2.2), (st.2.2.1, st.2.2.2.1, st.2.2.2.2.1, (st.2.2.2.2.2.1 + (1 : Int32)), st.2.2.2.2.2.2.1, st.2.2.2.2.2.2.2))) H := hP
          have hD : va_D A (MW cA aM aG (((st.1.1.1, st.1.1.2.1, st.1.1.2.2.1, st.1.1.2.2.2), st.1.2), (st.2.1.1, st.2.1.2.1, st.2.1.2.2), (st.2.2.1, st.2.2.2.1, st.2.2.2.2.1, (st.2.2.2.2.2.1 + (1 : Int32)), st.2.2.2.2.2.2.1, st.2.2.2.2.2.2.2))) := hD
          refine lv_aload_n hx hb d_M_take_73 rfl (lv_at hl 1 rfl) ?_
          refine lv_dup hx hb d_M_take_74 rfl ?_
          refine va_get (D := D) (ci := 4) (v := .int st.2.2.2.2.2.2.2) (C := R_M) (T := T_M) (N := 14) hx hb hts in_M hown hK hP 0 rfl rfl 13 (by decide) (hts _ wm_367) (fun _ h9 => h9) rfl d_M_take_75 ?_
          refine lv_iconst (v := 1) hx hb d_M_take_78 (by decide) ?_
          refine lv_isub hx hb d_M_take_79 ?_
          refine va_put (D := D) (ci := 4) (v := .int (st.2.2.2.2.2.2.2 - (1 : Int32))) (ty := .int) (C := R_M) (T := T_M) (N := 14) hx hb hts in_M ty_M ty_M_ok nm_M hown hK hP hD hS 0 rfl rfl 13 (by decide) (hts _ wm_367) (fun _ h9 => h9) rfl (ty_M_ok 13 (by decide)) rfl rfl (Nat.le_of_ble_eq_true rfl) d_M_take_80 (fun H locs hP hD hS => ?_)
          have hP : va_P D vwC (MW cA aM aG (((st.1.1.1, st.1.1.2.1, st.1.1.2.2.1, st.1.1.2.2.2), st.1.2), (st.2.1.1, st.2.1.2.1, st.2.1.2.2), (st.2.2.1, st.2.2.2.1, st.2.2.2.2.1, (st.2.2.2.2.2.1 + (1 : Int32)), st.2.2.2.2.2.2.1, (st.2.2.2.2.2.2.2 - (1 : Int32))))) H := hP
          have hD : va_D A (MW cA aM aG (((st.1.1.1, st.1.1.2.1, st.1.1.2.2.1, st.1.1.2.2.2), st.1.2), (st.2.1.1, st.2.1.2.1, st.2.1.2.2), (st.2.2.1, st.2.2.2.1, st.2.2.2.2.1, (st.2.2.2.2.2.1 + (1 : Int32)), st.2.2.2.2.2.2.1, (st.2.2.2.2.2.2.2 - (1 : Int32))))) := hD
          refine lv_aload_n hx hb d_M_take_83 rfl (lv_at hl 1 rfl) ?_
          refine lv_aload_n hx hb d_M_take_84 rfl (lv_at hl 1 rfl) ?_
          refine va_get (D := D) (ci := 4) (v := .int ((st.2.2.2.2.2.2.2 - (1 : Int32)))) (C := R_M) (T := T_M) (N := 14) hx hb hts in_M hown hK hP 0 rfl rfl 13 (by decide) (hts _ wm_367) (fun _ h9 => h9) rfl d_M_take_85 ?_
          refine lv_if_ne (tgt := 95) hx hb d_M_take_88 (by decide) (fun h88 => ?_) (fun h88 => ?_)
          · skip
            refine lv_aload_n hx hb d_M_take_95 rfl (lv_at hl 1 rfl) ?_
            refine va_get (D := D) (ci := 4) (v := .int st.2.2.2.2.2.2.1) (C := R_M) (T := T_M) (N := 14) hx hb hts in_M hown hK hP 0 rfl rfl 12 (by decide) (hts _ wm_366) (fun _ h9 => h9) rfl d_M_take_96 ?_
            refine va_put (D := D) (ci := 4) (v := .int st.2.2.2.2.2.2.1) (ty := .int) (C := R_M) (T := T_M) (N := 14) hx hb hts in_M ty_M ty_M_ok nm_M hown hK hP hD hS 0 rfl rfl 12 (by decide) (hts _ wm_366) (fun _ h9 => h9) rfl (ty_M_ok 12 (by decide)) rfl rfl (Nat.le_of_ble_eq_true rfl) d_M_take_99 (fun H locs hP hD hS => ?_)
            have hP : va_P D vwC (MW cA aM aG (((st.1.1.1, st.1.1.2.1, st.1.1.2.2.1, st.1.1.2.2.2), st.1.2), (st.2.1.1, st.2.1.2.1, st.2.1.2.2), (st.2.2.1, st.2.2.2.1, st.2.2.2.2.1, (st.2.2.2.2.2.1 + (1 : Int32)), st.2.2.2.2.2.2.1, (st.2.2.2.2.2.2.2 - (1 : Int32))))) H := hP
            have hD : va_D A (MW cA aM aG (((st.1.1.1, st.1.1.2.1, st.1.1.2.2.1, st.1.1.2.2.2), st.1.2), (st.2.1.1, st.2.1.2.1, st.2.1.2.2), (st.2.2.1, st.2.2.2.1, st.2.2.2.2.1, (st.2.2.2.2.2.1 + (1 : Int32)), st.2.2.2.2.2.2.1, (st.2.2.2.2.2.2.2 - (1 : Int32))))) := hD
            refine lv_aload_n hx hb d_M_take_102 rfl (lv_at hl 1 rfl) ?_
            refine lv_iload_n hx hb d_M_take_103 rfl (lv_at hl 0 rfl) ?_
            obtain ⟨v104, hv104⟩ : ∃ x : Ms, x = (((st.1.1.1, st.1.1.2.1, st.1.1.2.2.1, st.1.1.2.2.2), st.1.2), (st.2.1.1, st.2.1.2.1, st.2.1.2.2), (st.2.2.1, st.2.2.2.1, st.2.2.2.2.1, (st.2.2.2.2.2.1 + (1 : Int32)), st.2.2.2.2.2.2.1, (st.2.2.2.2.2.2.2 - (1 : Int32)))) := ⟨_, rfl⟩
            have hP : va_P D vwC (MW cA aM aG v104) H := by rw [hv104]; exact hP
            have hD : va_D A (MW cA aM aG v104) := by rw [hv104]; exact hD
            refine sw_callVv (rest := []) 0 4 [.int ((nI c) + (cmb st.1.1.1 q))] hx hb hml hown hts hK hN hA hP hD hS (k_M_make l D cA aM aG v104 _ n Ln ((nI c) + (cmb st.1.1.1 q)) (by rw [hv104]; exact hn) (by rw [hv104]; exact hL) (by omega) (by omega) (by omega)) cw_M_114 rfl rfl rfl ⟨Nat.le_of_ble_eq_true rfl, Nat.le_of_ble_eq_true rfl⟩ hl.1 rfl rfl (Nat.le_of_ble_eq_true rfl) d_M_take_104 (fun u104 H locs hq104 hP hD hS => ?_)
            have hu104 : u104 = mmake n Ln ((nI c) + (cmb st.1.1.1 q)) v104 := hq104
            refine sw_vret (u := u104) hx hb hr hlk hK hP hD hS d_M_take_107 ?_
            subst hv104
            have e := show mtk c n q Ln st = _ from (if_neg h4).trans ((if_neg h18).trans ((if_neg h37).trans (if_pos h61)))
            rw [mcnt_nz (s := mplc st) h88] at e
            exact hu104.trans e.symm
          · skip
            refine lv_iconst (v := 0) hx hb d_M_take_91 (by decide) ?_
            refine lv_goto (tgt := 99) hx hb d_M_take_92 (by decide) ?_
            refine va_put (D := D) (ci := 4) (v := .int (0 : Int32)) (ty := .int) (C := R_M) (T := T_M) (N := 14) hx hb hts in_M ty_M ty_M_ok nm_M hown hK hP hD hS 0 rfl rfl 12 (by decide) (hts _ wm_366) (fun _ h9 => h9) rfl (ty_M_ok 12 (by decide)) rfl rfl (Nat.le_of_ble_eq_true rfl) d_M_take_99 (fun H locs hP hD hS => ?_)
            have hP : va_P D vwC (MW cA aM aG (((st.1.1.1, st.1.1.2.1, st.1.1.2.2.1, st.1.1.2.2.2), st.1.2), (st.2.1.1, st.2.1.2.1, st.2.1.2.2), (st.2.2.1, st.2.2.2.1, st.2.2.2.2.1, (st.2.2.2.2.2.1 + (1 : Int32)), (0 : Int32), (st.2.2.2.2.2.2.2 - (1 : Int32))))) H := hP
            have hD : va_D A (MW cA aM aG (((st.1.1.1, st.1.1.2.1, st.1.1.2.2.1, st.1.1.2.2.2), st.1.2), (st.2.1.1, st.2.1.2.1, st.2.1.2.2), (st.2.2.1, st.2.2.2.1, st.2.2.2.2.1, (st.2.2.2.2.2.1 + (1 : Int32)), (0 : Int32), (st.2.2.2.2.2.2.2 - (1 : Int32))))) := hD
            refine lv_aload_n hx hb d_M_take_102 rfl (lv_at hl 1 rfl) ?_
            refine lv_iload_n hx hb d_M_take_103 rfl (lv_at hl 0 rfl) ?_
            obtain ⟨v104, hv104⟩ : ∃ x : Ms, x = (((st.1.1.1, st.1.1.2.1, st.1.1.2.2.1, st.1.1.2.2.2), st.1.2), (st.2.1.1, st.2.1.2.1, st.2.1.2.2), (st.2.2.1, st.2.2.2.1, st.2.2.2.2.1, (st.2.2.2.2.2.1 + (1 : Int32)), (0 : Int32), (st.2.2.2.2.2.2.2 - (1 : Int32)))) := ⟨_, rfl⟩
            have hP : va_P D vwC (MW cA aM aG v104) H := by rw [hv104]; exact hP
            have hD : va_D A (MW cA aM aG v104) := by rw [hv104]; exact hD
            refine sw_callVv (rest := []) 0 4 [.int ((nI c) + (cmb st.1.1.1 q))] hx hb hml hown hts hK hN hA hP hD hS (k_M_make l D cA aM aG v104 _ n Ln ((nI c) + (cmb st.1.1.1 q)) (by rw [hv104]; exact hn) (by rw [hv104]; exact hL) (by omega) (by omega) (by omega)) cw_M_114 rfl rfl rfl ⟨Nat.le_of_ble_eq_true rfl, Nat.le_of_ble_eq_true rfl⟩ hl.1 rfl rfl (Nat.le_of_ble_eq_true rfl) d_M_take_104 (fun u104 H locs hq104 hP hD hS => ?_)
            have hu104 : u104 = mmake n Ln ((nI c) + (cmb st.1.1.1 q)) v104 := hq104
            refine sw_vret (u := u104) hx hb hr hlk hK hP hD hS d_M_take_107 ?_
            subst hv104
            have e := show mtk c n q Ln st = _ from (if_neg h4).trans ((if_neg h18).trans ((if_neg h37).trans (if_pos h61)))
            rw [mcnt_z (s := mplc st) h88] at e
            exact hu104.trans e.symm
      · skip
        refine lv_iload_n hx hb d_M_take_40 rfl (lv_at hl 1 rfl) ?_
        refine lv_goto (tgt := 50) hx hb d_M_take_41 (by decide) ?_
        refine lv_istore_n hx hb d_M_take_50 rfl hl (by decide) rfl (fun ls hl => ?_)
        have hl : lv_has ls 3 [(2, .int (nI c)), (0, .ref aM), (1, .int (nI c))] := hl
        refine lv_aload_n hx hb d_M_take_51 rfl (lv_at hl 1 rfl) ?_
        refine lv_dup hx hb d_M_take_52 rfl ?_
        refine va_get (D := D) (ci := 4) (v := .int st.2.2.2.2.2.1) (C := R_M) (T := T_M) (N := 14) hx hb hts in_M hown hK hP 0 rfl rfl 11 (by decide) (hts _ wm_365) (fun _ h9 => h9) rfl d_M_take_53 ?_
        refine lv_aload_n hx hb d_M_take_56 rfl (lv_at hl 1 rfl) ?_
        refine va_get (D := D) (ci := 4) (v := .int st.2.2.2.2.2.2.1) (C := R_M) (T := T_M) (N := 14) hx hb hts in_M hown hK hP 0 rfl rfl 12 (by decide) (hts _ wm_366) (fun _ h9 => h9) rfl d_M_take_57 ?_
        refine lv_iconst (v := 3) hx hb d_M_take_60 (by decide) ?_
        refine lv_icmp_ne (tgt := 68) hx hb d_M_take_61 (by decide) (fun h61 => ?_) (fun h61 => ?_)
        · skip
          refine lv_iconst (v := 0) hx hb d_M_take_68 (by decide) ?_
          refine lv_iadd hx hb d_M_take_69 ?_
          refine va_put (D := D) (ci := 4) (v := .int (st.2.2.2.2.2.1 + (0 : Int32))) (ty := .int) (C := R_M) (T := T_M) (N := 14) hx hb hts in_M ty_M ty_M_ok nm_M hown hK hP hD hS 0 rfl rfl 11 (by decide) (hts _ wm_365) (fun _ h9 => h9) rfl (ty_M_ok 11 (by decide)) rfl rfl (Nat.le_of_ble_eq_true rfl) d_M_take_70 (fun H locs hP hD hS => ?_)
          have hP : va_P D vwC (MW cA aM aG (((st.1.1.1, st.1.1.2.1, st.1.1.2.2.1, st.1.1.2.2.2), st.1.2), (st.2.1.1, st.2.1.2.1, st.2.1.2.2), (st.2.2.1, st.2.2.2.1, st.2.2.2.2.1, (st.2.2.2.2.2.1 + (0 : Int32)), st.2.2.2.2.2.2.1, st.2.2.2.2.2.2.2))) H := hP
          have hD : va_D A (MW cA aM aG (((st.1.1.1, st.1.1.2.1, st.1.1.2.2.1, st.1.1.2.2.2), st.1.2), (st.2.1.1, st.2.1.2.1, st.2.1.2.2), (st.2.2.1, st.2.2.2.1, st.2.2.2.2.1, (st.2.2.2.2.2.1 + (0 : Int32)), st.2.2.2.2.2.2.1, st.2.2.2.2.2.2.2))) := hD
          refine lv_aload_n hx hb d_M_take_73 rfl (lv_at hl 1 rfl) ?_
          refine lv_dup hx hb d_M_take_74 rfl ?_
          refine va_get (D := D) (ci := 4) (v := .int st.2.2.2.2.2.2.2) (C := R_M) (T := T_M) (N := 14) hx hb hts in_M hown hK hP 0 rfl rfl 13 (by decide) (hts _ wm_367) (fun _ h9 => h9) rfl d_M_take_75 ?_
          refine lv_iconst (v := 1) hx hb d_M_take_78 (by decide) ?_
          refine lv_isub hx hb d_M_take_79 ?_
          refine va_put (D := D) (ci := 4) (v := .int (st.2.2.2.2.2.2.2 - (1 : Int32))) (ty := .int) (C := R_M) (T := T_M) (N := 14) hx hb hts in_M ty_M ty_M_ok nm_M hown hK hP hD hS 0 rfl rfl 13 (by decide) (hts _ wm_367) (fun _ h9 => h9) rfl (ty_M_ok 13 (by decide)) rfl rfl (Nat.le_of_ble_eq_true rfl) d_M_take_80 (fun H locs hP hD hS => ?_)
          have hP : va_P D vwC (MW cA aM aG (((st.1.1.1, st.1.1.2.1, st.1.1.2.2.1, st.1.1.2.2.2), st.1.2), (st.2.1.1, st.2.1.2.1, st.2.1.2.2), (st.2.2.1, st.2.2.2.1, st.2.2.2.2.1, (st.2.2.2.2.2.1 + (0 : Int32)), st.2.2.2.2.2.2.1, (st.2.2.2.2.2.2.2 - (1 : Int32))))) H := hP
          have hD : va_D A (MW cA aM aG (((st.1.1.1, st.1.1.2.1, st.1.1.2.2.1, st.1.1.2.2.2), st.1.2), (st.2.1.1, st.2.1.2.1, st.2.1.2.2), (st.2.2.1, st.2.2.2.1, st.2.2.2.2.1, (st.2.2.2.2.2.1 + (0 : Int32)), st.2.2.2.2.2.2.1, (st.2.2.2.2.2.2.2 - (1 : Int32))))) := hD
          refine lv_aload_n hx hb d_M_take_83 rfl (lv_at hl 1 rfl) ?_
          refine lv_aload_n hx hb d_M_take_84 rfl (lv_at hl 1 rfl) ?_
          refine va_get (D := D) (ci := 4) (v := .int ((st.2.2.2.2.2.2.2 - (1 : Int32)))) (C := R_M) (T := T_M) (N := 14) hx hb hts in_M hown hK hP 0 rfl rfl 13 (by decide) (hts _ wm_367) (fun _ h9 => h9) rfl d_M_take_85 ?_
          refine lv_if_ne (tgt := 95) hx hb d_M_take_88 (by decide) (fun h88 => ?_) (fun h88 => ?_)
          · skip
            refine lv_aload_n hx hb d_M_take_95 rfl (lv_at hl 1 rfl) ?_
            refine va_get (D := D) (ci := 4) (v := .int st.2.2.2.2.2.2.1) (C := R_M) (T := T_M) (N := 14) hx hb hts in_M hown hK hP 0 rfl rfl 12 (by decide) (hts _ wm_366) (fun _ h9 => h9) rfl d_M_take_96 ?_
            refine va_put (D := D) (ci := 4) (v := .int st.2.2.2.2.2.2.1) (ty := .int) (C := R_M) (T := T_M) (N := 14) hx hb hts in_M ty_M ty_M_ok nm_M hown hK hP hD hS 0 rfl rfl 12 (by decide) (hts _ wm_366) (fun _ h9 => h9) rfl (ty_M_ok 12 (by decide)) rfl rfl (Nat.le_of_ble_eq_true rfl) d_M_take_99 (fun H locs hP hD hS => ?_)
            have hP : va_P D vwC (MW cA aM aG (((st.1.1.1, st.1.1.2.1, st.1.1.2.2.1, st.1.1.2.2.2), st.1.2), (st.2.1.1, st.2.1.2.1, st.2.1.2.2), (st.2.2.1, st.2.2.2.1, st.2.2.2.2.1, (st.2.2.2.2.2.1 + (0 : Int32)), st.2.2.2.2.2.2.1, (st.2.2.2.2.2.2.2 - (1 : Int32))))) H := hP
            have hD : va_D A (MW cA aM aG (((st.1.1.1, st.1.1.2.1, st.1.1.2.2.1, st.1.1.2.2.2), st.1.2), (st.2.1.1, st.2.1.2.1, st.2.1.2.2), (st.2.2.1, st.2.2.2.1, st.2.2.2.2.1, (st.2.2.2.2.2.1 + (0 : Int32)), st.2.2.2.2.2.2.1, (st.2.2.2.2.2.2.2 - (1 : Int32))))) := hD
            refine lv_aload_n hx hb d_M_take_102 rfl (lv_at hl 1 rfl) ?_
            refine lv_iload_n hx hb d_M_take_103 rfl (lv_at hl 0 rfl) ?_
            obtain ⟨v104, hv104⟩ : ∃ x : Ms, x = (((st.1.1.1, st.1.1.2.1, st.1.1.2.2.1, st.1.1.2.2.2), st.1.2), (st.2.1.1, st.2.1.2.1, st.2.1.2.2), (st.2.2.1, st.2.2.2.1, st.2.2.2.2.1, (st.2.2.2.2.2.1 + (0 : Int32)), st.2.2.2.2.2.2.1, (st.2.2.2.2.2.2.2 - (1 : Int32)))) := ⟨_, rfl⟩
            have hP : va_P D vwC (MW cA aM aG v104) H := by rw [hv104]; exact hP
            have hD : va_D A (MW cA aM aG v104) := by rw [hv104]; exact hD
            refine sw_callVv (rest := []) 0 4 [.int (nI c)] hx hb hml hown hts hK hN hA hP hD hS (k_M_make l D cA aM aG v104 _ n Ln (nI c) (by rw [hv104]; exact hn) (by rw [hv104]; exact hL) (by omega) (by omega) (by omega)) cw_M_114 rfl rfl rfl ⟨Nat.le_of_ble_eq_true rfl, Nat.le_of_ble_eq_true rfl⟩ hl.1 rfl rfl (Nat.le_of_ble_eq_true rfl) d_M_take_104 (fun u104 H locs hq104 hP hD hS => ?_)
            have hu104 : u104 = mmake n Ln (nI c) v104 := hq104
            refine sw_vret (u := u104) hx hb hr hlk hK hP hD hS d_M_take_107 ?_
            subst hv104
            rw [i32_add0] at hu104
            have e := show mtk c n q Ln st = _ from (if_neg h4).trans ((if_neg h18).trans (if_pos h37))
            rw [mcnt_nz h88] at e
            exact hu104.trans e.symm
          · skip
            refine lv_iconst (v := 0) hx hb d_M_take_91 (by decide) ?_
            refine lv_goto (tgt := 99) hx hb d_M_take_92 (by decide) ?_
            refine va_put (D := D) (ci := 4) (v := .int (0 : Int32)) (ty := .int) (C := R_M) (T := T_M) (N := 14) hx hb hts in_M ty_M ty_M_ok nm_M hown hK hP hD hS 0 rfl rfl 12 (by decide) (hts _ wm_366) (fun _ h9 => h9) rfl (ty_M_ok 12 (by decide)) rfl rfl (Nat.le_of_ble_eq_true rfl) d_M_take_99 (fun H locs hP hD hS => ?_)
            have hP : va_P D vwC (MW cA aM aG (((st.1.1.1, st.1.1.2.1, st.1.1.2.2.1, st.1.1.2.2.2), st.1.2), (st.2.1.1, st.2.1.2.1, st.2.1.2.2), (st.2.2.1, st.2.2.2.1, st.2.2.2.2.1, (st.2.2.2.2.2.1 + (0 : Int32)), (0 : Int32), (st.2.2.2.2.2.2.2 - (1 : Int32))))) H := hP
            have hD : va_D A (MW cA aM aG (((st.1.1.1, st.1.1.2.1, st.1.1.2.2.1, st.1.1.2.2.2), st.1.2), (st.2.1.1, st.2.1.2.1, st.2.1.2.2), (st.2.2.1, st.2.2.2.1, st.2.2.2.2.1, (st.2.2.2.2.2.1 + (0 : Int32)), (0 : Int32), (st.2.2.2.2.2.2.2 - (1 : Int32))))) := hD
            refine lv_aload_n hx hb d_M_take_102 rfl (lv_at hl 1 rfl) ?_
            refine lv_iload_n hx hb d_M_take_103 rfl (lv_at hl 0 rfl) ?_
            obtain ⟨v104, hv104⟩ : ∃ x : Ms, x = (((st.1.1.1, st.1.1.2.1, st.1.1.2.2.1, st.1.1.2.2.2), st.1.2), (st.2.1.1, st.2.1.2.1, st.2.1.2.2), (st.2.2.1, st.2.2.2.1, st.2.2.2.2.1, (st.2.2.2.2.2.1 + (0 : Int32)), (0 : Int32), (st.2.2.2.2.2.2.2 - (1 : Int32)))) := ⟨_, rfl⟩
            have hP : va_P D vwC (MW cA aM aG v104) H := by rw [hv104]; exact hP
            have hD : va_D A (MW cA aM aG v104) := by rw [hv104]; exact hD
            refine sw_callVv (rest := []) 0 4 [.int (nI c)] hx hb hml hown hts hK hN hA hP hD hS (k_M_make l D cA aM aG v104 _ n Ln (nI c) (by rw [hv104]; exact hn) (by rw [hv104]; exact hL) (by omega) (by omega) (by omega)) cw_M_114 rfl rfl rfl ⟨Nat.le_of_ble_eq_true rfl, Nat.le_of_ble_eq_true rfl⟩ hl.1 rfl rfl (Nat.le_of_ble_eq_true rfl) d_M_take_104 (fun u104 H locs hq104 hP hD hS => ?_)
            have hu104 : u104 = mmake n Ln (nI c) v104 := hq104
            refine sw_vret (u := u104) hx hb hr hlk hK hP hD hS d_M_take_107 ?_
            subst hv104
            rw [i32_add0] at hu104
            have e := show mtk c n q Ln st = _ from (if_neg h4).trans ((if_neg h18).trans (if_pos h37))
            rw [mcnt_z h88] at e
            exact hu104.trans e.symm
        · skip
          refine lv_iconst (v := 1) hx hb d_M_take_64 (by decide) ?_
          refine lv_goto (tgt := 69) hx hb d_M_take_65 (by decide) ?_
          refine lv_iadd hx hb d_M_take_69 ?_
          refine va_put (D := D) (ci := 4) (v := .int (st.2.2.2.2.2.1 + (1 : Int32))) (ty := .int) (C := R_M) (T := T_M) (N := 14) hx hb hts in_M ty_M ty_M_ok nm_M hown hK hP hD hS 0 rfl rfl 11 (by decide) (hts _ wm_365) (fun _ h9 => h9) rfl (ty_M_ok 11 (by decide)) rfl rfl (Nat.le_of_ble_eq_true rfl) d_M_take_70 (fun H locs hP hD hS => ?_)
          have hP : va_P D vwC (MW cA aM aG (((st.1.1.1, st.1.1.2.1, st.1.1.2.2.1, st.1.1.2.2.2), st.1.2), (st.2.1.1, st.2.1.2.1, st.2.1.2.2), (st.2.2.1, st.2.2.2.1, st.2.2.2.2.1, (st.2.2.2.2.2.1 + (1 : Int32)), st.2.2.2.2.2.2.1, st.2.2.2.2.2.2.2))) H := hP
          have hD : va_D A (MW cA aM aG (((st.1.1.1, st.1.1.2.1, st.1.1.2.2.1, st.1.1.2.2.2), st.1.2), (st.2.1.1, st.2.1.2.1, st.2.1.2.2), (st.2.2.1, st.2.2.2.1, st.2.2.2.2.1, (st.2.2.2.2.2.1 + (1 : Int32)), st.2.2.2.2.2.2.1, st.2.2.2.2.2.2.2))) := hD
          refine lv_aload_n hx hb d_M_take_73 rfl (lv_at hl 1 rfl) ?_
          refine lv_dup hx hb d_M_take_74 rfl ?_
          refine va_get (D := D) (ci := 4) (v := .int st.2.2.2.2.2.2.2) (C := R_M) (T := T_M) (N := 14) hx hb hts in_M hown hK hP 0 rfl rfl 13 (by decide) (hts _ wm_367) (fun _ h9 => h9) rfl d_M_take_75 ?_
          refine lv_iconst (v := 1) hx hb d_M_take_78 (by decide) ?_
          refine lv_isub hx hb d_M_take_79 ?_
          refine va_put (D := D) (ci := 4) (v := .int (st.2.2.2.2.2.2.2 - (1 : Int32))) (ty := .int) (C := R_M) (T := T_M) (N := 14) hx hb hts in_M ty_M ty_M_ok nm_M hown hK hP hD hS 0 rfl rfl 13 (by decide) (hts _ wm_367) (fun _ h9 => h9) rfl (ty_M_ok 13 (by decide)) rfl rfl (Nat.le_of_ble_eq_true rfl) d_M_take_80 (fun H locs hP hD hS => ?_)
          have hP : va_P D vwC (MW cA aM aG (((st.1.1.1, st.1.1.2.1, st.1.1.2.2.1, st.1.1.2.2.2), st.1.2), (st.2.1.1, st.2.1.2.1, st.2.1.2.2), (st.2.2.1, st.2.2.2.1, st.2.2.2.2.1, (st.2.2.2.2.2.1 + (1 : Int32)), st.2.2.2.2.2.2.1, (st.2.2.2.2.2.2.2 - (1 : Int32))))) H := hP
          have hD : va_D A (MW cA aM aG (((st.1.1.1, st.1.1.2.1, st.1.1.2.2.1, st.1.1.2.2.2), st.1.2), (st.2.1.1, st.2.1.2.1, st.2.1.2.2), (st.2.2.1, st.2.2.2.1, st.2.2.2.2.1, (st.2.2.2.2.2.1 + (1 : Int32)), st.2.2.2.2.2.2.1, (st.2.2.2.2.2.2.2 - (1 : Int32))))) := hD
          refine lv_aload_n hx hb d_M_take_83 rfl (lv_at hl 1 rfl) ?_
          refine lv_aload_n hx hb d_M_take_84 rfl (lv_at hl 1 rfl) ?_
          refine va_get (D := D) (ci := 4) (v := .int ((st.2.2.2.2.2.2.2 - (1 : Int32)))) (C := R_M) (T := T_M) (N := 14) hx hb hts in_M hown hK hP 0 rfl rfl 13 (by decide) (hts _ wm_367) (fun _ h9 => h9) rfl d_M_take_85 ?_
          refine lv_if_ne (tgt := 95) hx hb d_M_take_88 (by decide) (fun h88 => ?_) (fun h88 => ?_)
          · skip
            refine lv_aload_n hx hb d_M_take_95 rfl (lv_at hl 1 rfl) ?_
            refine va_get (D := D) (ci := 4) (v := .int st.2.2.2.2.2.2.1) (C := R_M) (T := T_M) (N := 14) hx hb hts in_M hown hK hP 0 rfl rfl 12 (by decide) (hts _ wm_366) (fun _ h9 => h9) rfl d_M_take_96 ?_
            refine va_put (D := D) (ci := 4) (v := .int st.2.2.2.2.2.2.1) (ty := .int) (C := R_M) (T := T_M) (N := 14) hx hb hts in_M ty_M ty_M_ok nm_M hown hK hP hD hS 0 rfl rfl 12 (by decide) (hts _ wm_366) (fun _ h9 => h9) rfl (ty_M_ok 12 (by decide)) rfl rfl (Nat.le_of_ble_eq_true rfl) d_M_take_99 (fun H locs hP hD hS => ?_)
            have hP : va_P D vwC (MW cA aM aG (((st.1.1.1, st.1.1.2.1, st.1.1.2.2.1, st.1.1.2.2.2), st.1.2), (st.2.1.1, st.2.1.2.1, st.2.1.2.2), (st.2.2.1, st.2.2.2.1, st.2.2.2.2.1, (st.2.2.2.2.2.1 + (1 : Int32)), st.2.2.2.2.2.2.1, (st.2.2.2.2.2.2.2 - (1 : Int32))))) H := hP
            have hD : va_D A (MW cA aM aG (((st.1.1.1, st.1.1.2.1, st.1.1.2.2.1, st.1.1.2.2.2), st.1.2), (st.2.1.1, st.2.1.2.1, st.2.1.2.2), (st.2.2.1, st.2.2.2.1, st.2.2.2.2.1, (st.2.2.2.2.2.1 + (1 : Int32)), st.2.2.2.2.2.2.1, (st.2.2.2.2.2.2.2 - (1 : Int32))))) := hD
            refine lv_aload_n hx hb d_M_take_102 rfl (lv_at hl 1 rfl) ?_
            refine lv_iload_n hx hb d_M_take_103 rfl (lv_at hl 0 rfl) ?_
            obtain ⟨v104, hv104⟩ : ∃ x : Ms, x = (((st.1.1.1, st.1.1.2.1, st.1.1.2.2.1, st.1.1.2.2.2), st.1.2), (st.2.1.1, st.2.1.2.1, st.2.1.2.2), (st.2.2.1, st.2.2.2.1, st.2.2.2.2.1, (st.2.2.2.2.2.1 + (1 : Int32)), st.2.2.2.2.2.2.1, (st.2.2.2.2.2.2.2 - (1 : Int32)))) := ⟨_, rfl⟩
            have hP : va_P D vwC (MW cA aM aG v104) H := by rw [hv104]; exact hP
            have hD : va_D A (MW cA aM aG v104) := by rw [hv104]; exact hD
            refine sw_callVv (rest := []) 0 4 [.int (nI c)] hx hb hml hown hts hK hN hA hP hD hS (k_M_make l D cA aM aG v104 _ n Ln (nI c) (by rw [hv104]; exact hn) (by rw [hv104]; exact hL) (by omega) (by omega) (by omega)) cw_M_114 rfl rfl rfl ⟨Nat.le_of_ble_eq_true rfl, Nat.le_of_ble_eq_true rfl⟩ hl.1 rfl rfl (Nat.le_of_ble_eq_true rfl) d_M_take_104 (fun u104 H locs hq104 hP hD hS => ?_)
            have hu104 : u104 = mmake n Ln (nI c) v104 := hq104
            refine sw_vret (u := u104) hx hb hr hlk hK hP hD hS d_M_take_107 ?_
            exact absurd (h37.symm.trans h61) (by decide)
          · skip
            refine lv_iconst (v := 0) hx hb d_M_take_91 (by decide) ?_
            refine lv_goto (tgt := 99) hx hb d_M_take_92 (by decide) ?_
            refine va_put (D := D) (ci := 4) (v := .int (0 : Int32)) (ty := .int) (C := R_M) (T := T_M) (N := 14) hx hb hts in_M ty_M ty_M_ok nm_M hown hK hP hD hS 0 rfl rfl 12 (by decide) (hts _ wm_366) (fun _ h9 => h9) rfl (ty_M_ok 12 (by decide)) rfl rfl (Nat.le_of_ble_eq_true rfl) d_M_take_99 (fun H locs hP hD hS => ?_)
            have hP : va_P D vwC (MW cA aM aG (((st.1.1.1, st.1.1.2.1, st.1.1.2.2.1, st.1.1.2.2.2), st.1.2), (st.2.1.1, st.2.1.2.1, st.2.1.2.2), (st.2.2.1, st.2.2.2.1, st.2.2.2.2.1, (st.2.2.2.2.2.1 + (1 : Int32)), (0 : Int32), (st.2.2.2.2.2.2.2 - (1 : Int32))))) H := hP
            have hD : va_D A (MW cA aM aG (((st.1.1.1, st.1.1.2.1, st.1.1.2.2.1, st.1.1.2.2.2), st.1.2), (st.2.1.1, st.2.1.2.1, st.2.1.2.2), (st.2.2.1, st.2.2.2.1, st.2.2.2.2.1, (st.2.2.2.2.2.1 + (1 : Int32)), (0 : Int32), (st.2.2.2.2.2.2.2 - (1 : Int32))))) := hD
            refine lv_aload_n hx hb d_M_take_102 rfl (lv_at hl 1 rfl) ?_
            refine lv_iload_n hx hb d_M_take_103 rfl (lv_at hl 0 rfl) ?_
            obtain ⟨v104, hv104⟩ : ∃ x : Ms, x = (((st.1.1.1, st.1.1.2.1, st.1.1.2.2.1, st.1.1.2.2.2), st.1.2), (st.2.1.1, st.2.1.2.1, st.2.1.2.2), (st.2.2.1, st.2.2.2.1, st.2.2.2.2.1, (st.2.2.2.2.2.1 + (1 : Int32)), (0 : Int32), (st.2.2.2.2.2.2.2 - (1 : Int32)))) := ⟨_, rfl⟩
            have hP : va_P D vwC (MW cA aM aG v104) H := by rw [hv104]; exact hP
            have hD : va_D A (MW cA aM aG v104) := by rw [hv104]; exact hD
            refine sw_callVv (rest := []) 0 4 [.int (nI c)] hx hb hml hown hts hK hN hA hP hD hS (k_M_make l D cA aM aG v104 _ n Ln (nI c) (by rw [hv104]; exact hn) (by rw [hv104]; exact hL) (by omega) (by omega) (by omega)) cw_M_114 rfl rfl rfl ⟨Nat.le_of_ble_eq_true rfl, Nat.le_of_ble_eq_true rfl⟩ hl.1 rfl rfl (Nat.le_of_ble_eq_true rfl) d_M_take_104 (fun u104 H locs hq104 hP hD hS => ?_)
            have hu104 : u104 = mmake n Ln (nI c) v104 := hq104
            refine sw_vret (u := u104) hx hb hr hlk hK hP hD hS d_M_take_107 ?_
            exact absurd (h37.symm.trans h61) (by decide)
    · skip
      refine lv_aload_n hx hb d_M_take_21 rfl (lv_at hl 0 rfl) ?_
      refine lv_iload_n hx hb d_M_take_22 rfl (lv_at hl 1 rfl) ?_
      refine va_put (D := D) (ci := 4) (v := .int (nI c)) (ty := .int) (C := R_M) (T := T_M) (N := 14) hx hb hts in_M ty_M ty_M_ok nm_M hown hK hP hD hS 0 rfl rfl 11 (by decide) (hts _ wm_365) (fun _ h9 => h9) rfl (ty_M_ok 11 (by decide)) rfl rfl (Nat.le_of_ble_eq_true rfl) d_M_take_23 (fun H locs hP hD hS => ?_)
      have hP : va_P D vwC (MW cA aM aG (((st.1.1.1, st.1.1.2.1, st.1.1.2.2.1, st.1.1.2.2.2), st.1.2), (st.2.1.1, st.2.1.2.1, st.2.1.2.2), (st.2.2.1, st.2.2.2.1, st.2.2.2.2.1, nI c, st.2.2.2.2.2.2.1, st.2.2.2.2.2.2.2))) H := hP
      have hD : va_D A (MW cA aM aG (((st.1.1.1, st.1.1.2.1, st.1.1.2.2.1, st.1.1.2.2.2), st.1.2), (st.2.1.1, st.2.1.2.1, st.2.1.2.2), (st.2.2.1, st.2.2.2.1, st.2.2.2.2.1, nI c, st.2.2.2.2.2.2.1, st.2.2.2.2.2.2.2))) := hD
      refine lv_aload_n hx hb d_M_take_26 rfl (lv_at hl 0 rfl) ?_
      refine lv_iconst (v := 0) hx hb d_M_take_27 (by decide) ?_
      refine va_put (D := D) (ci := 4) (v := .int (0 : Int32)) (ty := .int) (C := R_M) (T := T_M) (N := 14) hx hb hts in_M ty_M ty_M_ok nm_M hown hK hP hD hS 0 rfl rfl 12 (by decide) (hts _ wm_366) (fun _ h9 => h9) rfl (ty_M_ok 12 (by decide)) rfl rfl (Nat.le_of_ble_eq_true rfl) d_M_take_28 (fun H locs hP hD hS => ?_)
      have hP : va_P D vwC (MW cA aM aG (((st.1.1.1, st.1.1.2.1, st.1.1.2.2.1, st.1.1.2.2.2), st.1.2), (st.2.1.1, st.2.1.2.1, st.2.1.2.2), (st.2.2.1, st.2.2.2.1, st.2.2.2.2.1, nI c, (0 : Int32), st.2.2.2.2.2.2.2))) H := hP
      have hD : va_D A (MW cA aM aG (((st.1.1.1, st.1.1.2.1, st.1.1.2.2.1, st.1.1.2.2.2), st.1.2), (st.2.1.1, st.2.1.2.1, st.2.1.2.2), (st.2.2.1, st.2.2.2.1, st.2.2.2.2.1, nI c, (0 : Int32), st.2.2.2.2.2.2.2))) := hD
      refine sw_vret (u := (((st.1.1.1, st.1.1.2.1, st.1.1.2.2.1, st.1.1.2.2.2), st.1.2), (st.2.1.1, st.2.1.2.1, st.2.1.2.2), (st.2.2.1, st.2.2.2.1, st.2.2.2.2.1, nI c, (0 : Int32), st.2.2.2.2.2.2.2))) hx hb hr hlk hK hP hD hS d_M_take_31 ?_
      exact (show mtk c n q Ln st = _ from (if_neg h4).trans (if_pos h18)).symm
  · skip
    refine lv_aload_n hx hb d_M_take_7 rfl (lv_at hl 0 rfl) ?_
    refine lv_iload_n hx hb d_M_take_8 rfl (lv_at hl 1 rfl) ?_
    refine sw_callVv (rest := []) 0 4 [.int (nI c)] hx hb hml hown hts hK hN hA hP hD hS (k_M_command l D cA aM aG st _ c n q Ln (by omega) hn hq hL (by omega) (by omega) (by omega) (by omega)) cw_M_123 rfl rfl rfl ⟨Nat.le_of_ble_eq_true rfl, Nat.le_of_ble_eq_true rfl⟩ hl.1 rfl rfl (Nat.le_of_ble_eq_true rfl) d_M_take_9 (fun u9 H locs hq9 hP hD hS => ?_)
    have hu9 : u9 = mcmd c n q Ln st := hq9
    refine sw_vret (u := u9) hx hb hr hlk hK hP hD hS d_M_take_12 ?_
    exact hu9.trans (show mtk c n q Ln st = _ from if_pos h4).symm
