/-! 09.patch: by program (wip/whole/src/gen.py) out of the bytecode and the specs. -/
theorem d_P_start_0 : decode b_P_start 0 = .ok (.aload_n 0, 1) := by decide +kernel
theorem d_P_start_1 : decode b_P_start 1 = .ok (.iload_n 1, 1) := by decide +kernel
theorem d_P_start_2 : decode b_P_start 2 = .ok (.putfield 22, 3) := by decide +kernel
theorem d_P_start_5 : decode b_P_start 5 = .ok (.aload_n 0, 1) := by decide +kernel
theorem d_P_start_6 : decode b_P_start 6 = .ok (.iload_n 2, 1) := by decide +kernel
theorem d_P_start_7 : decode b_P_start 7 = .ok (.putfield 25, 3) := by decide +kernel
theorem d_P_start_10 : decode b_P_start 10 = .ok (.aload_n 0, 1) := by decide +kernel
theorem d_P_start_11 : decode b_P_start 11 = .ok (.iconst 4, 1) := by decide +kernel
theorem d_P_start_12 : decode b_P_start 12 = .ok (.putfield 15, 3) := by decide +kernel
theorem d_P_start_15 : decode b_P_start 15 = .ok (.aload_n 0, 1) := by decide +kernel
theorem d_P_start_16 : decode b_P_start 16 = .ok (.iconst 4, 1) := by decide +kernel
theorem d_P_start_17 : decode b_P_start 17 = .ok (.putfield 19, 3) := by decide +kernel
theorem d_P_start_20 : decode b_P_start 20 = .ok (.aload_n 0, 1) := by decide +kernel
theorem d_P_start_21 : decode b_P_start 21 = .ok (.iconst 0, 1) := by decide +kernel
theorem d_P_start_22 : decode b_P_start 22 = .ok (.putfield 28, 3) := by decide +kernel
theorem d_P_start_25 : decode b_P_start 25 = .ok (.aload_n 0, 1) := by decide +kernel
theorem d_P_start_26 : decode b_P_start 26 = .ok (.iconst 0, 1) := by decide +kernel
theorem d_P_start_27 : decode b_P_start 27 = .ok (.putfield 31, 3) := by decide +kernel
theorem d_P_start_30 : decode b_P_start 30 = .ok (.return_, 1) := by decide +kernel
theorem d_P_end_0 : decode b_P_end 0 = .ok (.aload_n 0, 1) := by decide +kernel
theorem d_P_end_1 : decode b_P_end 1 = .ok (.iconst 0, 1) := by decide +kernel
theorem d_P_end_2 : decode b_P_end 2 = .ok (.putfield 15, 3) := by decide +kernel
theorem d_P_end_5 : decode b_P_end 5 = .ok (.aload_n 0, 1) := by decide +kernel
theorem d_P_end_6 : decode b_P_end 6 = .ok (.iconst 0, 1) := by decide +kernel
theorem d_P_end_7 : decode b_P_end 7 = .ok (.putfield 19, 3) := by decide +kernel
theorem d_P_end_10 : decode b_P_end 10 = .ok (.return_, 1) := by decide +kernel
theorem d_P_isOpen_0 : decode b_P_isOpen 0 = .ok (.aload_n 0, 1) := by decide +kernel
theorem d_P_isOpen_1 : decode b_P_isOpen 1 = .ok (.getfield 15, 3) := by decide +kernel
theorem d_P_isOpen_4 : decode b_P_isOpen 4 = .ok (.ifCond .eq 18, 3) := by decide +kernel
theorem d_P_isOpen_7 : decode b_P_isOpen 7 = .ok (.aload_n 0, 1) := by decide +kernel
theorem d_P_isOpen_8 : decode b_P_isOpen 8 = .ok (.getfield 15, 3) := by decide +kernel
theorem d_P_isOpen_11 : decode b_P_isOpen 11 = .ok (.aload_n 0, 1) := by decide +kernel
theorem d_P_isOpen_12 : decode b_P_isOpen 12 = .ok (.getfield 25, 3) := by decide +kernel
theorem d_P_isOpen_15 : decode b_P_isOpen 15 = .ok (.if_icmp .ge 7, 3) := by decide +kernel
theorem d_P_isOpen_18 : decode b_P_isOpen 18 = .ok (.iconst 1, 1) := by decide +kernel
theorem d_P_isOpen_19 : decode b_P_isOpen 19 = .ok (.goto 4, 3) := by decide +kernel
theorem d_P_isOpen_22 : decode b_P_isOpen 22 = .ok (.iconst 0, 1) := by decide +kernel
theorem d_P_isOpen_23 : decode b_P_isOpen 23 = .ok (.ireturn, 1) := by decide +kernel
theorem d_P_nextByte_0 : decode b_P_nextByte 0 = .ok (.aload_n 0, 1) := by decide +kernel
theorem d_P_nextByte_1 : decode b_P_nextByte 1 = .ok (.getfield 15, 3) := by decide +kernel
theorem d_P_nextByte_4 : decode b_P_nextByte 4 = .ok (.ireturn, 1) := by decide +kernel
theorem d_P_currentPlace_0 : decode b_P_currentPlace 0 = .ok (.aload_n 0, 1) := by decide +kernel
theorem d_P_currentPlace_1 : decode b_P_currentPlace 1 = .ok (.getfield 19, 3) := by decide +kernel
theorem d_P_currentPlace_4 : decode b_P_currentPlace 4 = .ok (.ireturn, 1) := by decide +kernel
theorem d_P_countFed_0 : decode b_P_countFed 0 = .ok (.aload_n 0, 1) := by decide +kernel
theorem d_P_countFed_1 : decode b_P_countFed 1 = .ok (.dup, 1) := by decide +kernel
theorem d_P_countFed_2 : decode b_P_countFed 2 = .ok (.getfield 31, 3) := by decide +kernel
theorem d_P_countFed_5 : decode b_P_countFed 5 = .ok (.iconst 1, 1) := by decide +kernel
theorem d_P_countFed_6 : decode b_P_countFed 6 = .ok (.isub, 1) := by decide +kernel
theorem d_P_countFed_7 : decode b_P_countFed 7 = .ok (.putfield 31, 3) := by decide +kernel
theorem d_P_countFed_10 : decode b_P_countFed 10 = .ok (.aload_n 0, 1) := by decide +kernel
theorem d_P_countFed_11 : decode b_P_countFed 11 = .ok (.getfield 31, 3) := by decide +kernel
theorem d_P_countFed_14 : decode b_P_countFed 14 = .ok (.ifCond .ne 8, 3) := by decide +kernel
theorem d_P_countFed_17 : decode b_P_countFed 17 = .ok (.aload_n 0, 1) := by decide +kernel
theorem d_P_countFed_18 : decode b_P_countFed 18 = .ok (.iconst 0, 1) := by decide +kernel
theorem d_P_countFed_19 : decode b_P_countFed 19 = .ok (.putfield 28, 3) := by decide +kernel
theorem d_P_countFed_22 : decode b_P_countFed 22 = .ok (.return_, 1) := by decide +kernel
theorem d_P_takeFromMain_0 : decode b_P_takeFromMain 0 = .ok (.aload_n 0, 1) := by decide +kernel
theorem d_P_takeFromMain_1 : decode b_P_takeFromMain 1 = .ok (.getfield 19, 3) := by decide +kernel
theorem d_P_takeFromMain_4 : decode b_P_takeFromMain 4 = .ok (.bipush 96, 2) := by decide +kernel
theorem d_P_takeFromMain_6 : decode b_P_takeFromMain 6 = .ok (.if_icmp .ge 19, 3) := by decide +kernel
theorem d_P_takeFromMain_9 : decode b_P_takeFromMain 9 = .ok (.aload_n 0, 1) := by decide +kernel
theorem d_P_takeFromMain_10 : decode b_P_takeFromMain 10 = .ok (.getfield 9, 3) := by decide +kernel
theorem d_P_takeFromMain_13 : decode b_P_takeFromMain 13 = .ok (.iconst 0, 1) := by decide +kernel
theorem d_P_takeFromMain_14 : decode b_P_takeFromMain 14 = .ok (.aload_n 0, 1) := by decide +kernel
theorem d_P_takeFromMain_15 : decode b_P_takeFromMain 15 = .ok (.getfield 19, 3) := by decide +kernel
theorem d_P_takeFromMain_18 : decode b_P_takeFromMain 18 = .ok (.iadd, 1) := by decide +kernel
theorem d_P_takeFromMain_19 : decode b_P_takeFromMain 19 = .ok (.invokevirtual 67, 3) := by decide +kernel
theorem d_P_takeFromMain_22 : decode b_P_takeFromMain 22 = .ok (.goto 4, 3) := by decide +kernel
theorem d_P_takeFromMain_25 : decode b_P_takeFromMain 25 = .ok (.iconst 0, 1) := by decide +kernel
theorem d_P_takeFromMain_26 : decode b_P_takeFromMain 26 = .ok (.istore_n 1, 1) := by decide +kernel
theorem d_P_takeFromMain_27 : decode b_P_takeFromMain 27 = .ok (.aload_n 0, 1) := by decide +kernel
theorem d_P_takeFromMain_28 : decode b_P_takeFromMain 28 = .ok (.dup, 1) := by decide +kernel
theorem d_P_takeFromMain_29 : decode b_P_takeFromMain 29 = .ok (.getfield 19, 3) := by decide +kernel
theorem d_P_takeFromMain_32 : decode b_P_takeFromMain 32 = .ok (.iconst 1, 1) := by decide +kernel
theorem d_P_takeFromMain_33 : decode b_P_takeFromMain 33 = .ok (.iadd, 1) := by decide +kernel
theorem d_P_takeFromMain_34 : decode b_P_takeFromMain 34 = .ok (.putfield 19, 3) := by decide +kernel
theorem d_P_takeFromMain_37 : decode b_P_takeFromMain 37 = .ok (.iload_n 1, 1) := by decide +kernel
theorem d_P_takeFromMain_38 : decode b_P_takeFromMain 38 = .ok (.ireturn, 1) := by decide +kernel
theorem d_P_make_0 : decode b_P_make 0 = .ok (.aload_n 0, 1) := by decide +kernel
theorem d_P_make_1 : decode b_P_make 1 = .ok (.getfield 9, 3) := by decide +kernel
theorem d_P_make_4 : decode b_P_make 4 = .ok (.bipush 96, 2) := by decide +kernel
theorem d_P_make_6 : decode b_P_make 6 = .ok (.aload_n 0, 1) := by decide +kernel
theorem d_P_make_7 : decode b_P_make 7 = .ok (.getfield 15, 3) := by decide +kernel
theorem d_P_make_10 : decode b_P_make 10 = .ok (.iadd, 1) := by decide +kernel
theorem d_P_make_11 : decode b_P_make 11 = .ok (.iload_n 1, 1) := by decide +kernel
theorem d_P_make_12 : decode b_P_make 12 = .ok (.invokevirtual 54, 3) := by decide +kernel
theorem d_P_make_15 : decode b_P_make 15 = .ok (.ifCond .ne 5, 3) := by decide +kernel
theorem d_P_make_18 : decode b_P_make 18 = .ok (.iconst 0, 1) := by decide +kernel
theorem d_P_make_19 : decode b_P_make 19 = .ok (.ireturn, 1) := by decide +kernel
theorem d_P_make_20 : decode b_P_make 20 = .ok (.aload_n 0, 1) := by decide +kernel
theorem d_P_make_21 : decode b_P_make 21 = .ok (.dup, 1) := by decide +kernel
theorem d_P_make_22 : decode b_P_make 22 = .ok (.getfield 15, 3) := by decide +kernel
theorem d_P_make_25 : decode b_P_make 25 = .ok (.iconst 1, 1) := by decide +kernel
theorem d_P_make_26 : decode b_P_make 26 = .ok (.iadd, 1) := by decide +kernel
theorem d_P_make_27 : decode b_P_make 27 = .ok (.putfield 15, 3) := by decide +kernel
theorem d_P_make_30 : decode b_P_make 30 = .ok (.iconst 1, 1) := by decide +kernel
theorem d_P_make_31 : decode b_P_make 31 = .ok (.ireturn, 1) := by decide +kernel
theorem d_P_copy_0 : decode b_P_copy 0 = .ok (.iconst 0, 1) := by decide +kernel
theorem d_P_copy_1 : decode b_P_copy 1 = .ok (.istore_n 2, 1) := by decide +kernel
theorem d_P_copy_2 : decode b_P_copy 2 = .ok (.iload_n 2, 1) := by decide +kernel
theorem d_P_copy_3 : decode b_P_copy 3 = .ok (.iload_n 1, 1) := by decide +kernel
theorem d_P_copy_4 : decode b_P_copy 4 = .ok (.if_icmp .ge 22, 3) := by decide +kernel
theorem d_P_copy_7 : decode b_P_copy 7 = .ok (.aload_n 0, 1) := by decide +kernel
theorem d_P_copy_8 : decode b_P_copy 8 = .ok (.aload_n 0, 1) := by decide +kernel
theorem d_P_copy_9 : decode b_P_copy 9 = .ok (.invokevirtual 41, 3) := by decide +kernel
theorem d_P_copy_12 : decode b_P_copy 12 = .ok (.invokevirtual 37, 3) := by decide +kernel
theorem d_P_copy_15 : decode b_P_copy 15 = .ok (.ifCond .ne 5, 3) := by decide +kernel
theorem d_P_copy_18 : decode b_P_copy 18 = .ok (.iconst 0, 1) := by decide +kernel
theorem d_P_copy_19 : decode b_P_copy 19 = .ok (.ireturn, 1) := by decide +kernel
theorem d_P_copy_20 : decode b_P_copy 20 = .ok (.iinc 2 1, 3) := by decide +kernel
theorem d_P_copy_23 : decode b_P_copy 23 = .ok (.goto (-21), 3) := by decide +kernel
theorem d_P_copy_26 : decode b_P_copy 26 = .ok (.iconst 1, 1) := by decide +kernel
theorem d_P_copy_27 : decode b_P_copy 27 = .ok (.ireturn, 1) := by decide +kernel
theorem d_P_obey_0 : decode b_P_obey 0 = .ok (.iload_n 1, 1) := by decide +kernel
theorem d_P_obey_1 : decode b_P_obey 1 = .ok (.bipush 64, 2) := by decide +kernel
theorem d_P_obey_3 : decode b_P_obey 3 = .ok (.irem, 1) := by decide +kernel
theorem d_P_obey_4 : decode b_P_obey 4 = .ok (.iconst 1, 1) := by decide +kernel
theorem d_P_obey_5 : decode b_P_obey 5 = .ok (.iadd, 1) := by decide +kernel
theorem d_P_obey_6 : decode b_P_obey 6 = .ok (.aload_n 0, 1) := by decide +kernel
theorem d_P_obey_7 : decode b_P_obey 7 = .ok (.getfield 25, 3) := by decide +kernel
theorem d_P_obey_10 : decode b_P_obey 10 = .ok (.aload_n 0, 1) := by decide +kernel
theorem d_P_obey_11 : decode b_P_obey 11 = .ok (.getfield 15, 3) := by decide +kernel
theorem d_P_obey_14 : decode b_P_obey 14 = .ok (.isub, 1) := by decide +kernel
theorem d_P_obey_15 : decode b_P_obey 15 = .ok (.invokestatic 58, 3) := by decide +kernel
theorem d_P_obey_18 : decode b_P_obey 18 = .ok (.istore_n 2, 1) := by decide +kernel
theorem d_P_obey_19 : decode b_P_obey 19 = .ok (.iload_n 1, 1) := by decide +kernel
theorem d_P_obey_20 : decode b_P_obey 20 = .ok (.bipush 64, 2) := by decide +kernel
theorem d_P_obey_22 : decode b_P_obey 22 = .ok (.idiv, 1) := by decide +kernel
theorem d_P_obey_23 : decode b_P_obey 23 = .ok (.tableswitch 50 0 2 #[25, 31, 38], 25) := by decide +kernel
theorem d_P_obey_48 : decode b_P_obey 48 = .ok (.aload_n 0, 1) := by decide +kernel
theorem d_P_obey_49 : decode b_P_obey 49 = .ok (.iload_n 2, 1) := by decide +kernel
theorem d_P_obey_50 : decode b_P_obey 50 = .ok (.invokevirtual 64, 3) := by decide +kernel
theorem d_P_obey_53 : decode b_P_obey 53 = .ok (.ireturn, 1) := by decide +kernel
theorem d_P_obey_54 : decode b_P_obey 54 = .ok (.aload_n 0, 1) := by decide +kernel
theorem d_P_obey_55 : decode b_P_obey 55 = .ok (.iconst 1, 1) := by decide +kernel
theorem d_P_obey_56 : decode b_P_obey 56 = .ok (.putfield 28, 3) := by decide +kernel
theorem d_P_obey_59 : decode b_P_obey 59 = .ok (.iconst 1, 1) := by decide +kernel
theorem d_P_obey_60 : decode b_P_obey 60 = .ok (.ireturn, 1) := by decide +kernel
theorem d_P_obey_61 : decode b_P_obey 61 = .ok (.aload_n 0, 1) := by decide +kernel
theorem d_P_obey_62 : decode b_P_obey 62 = .ok (.iconst 2, 1) := by decide +kernel
theorem d_P_obey_63 : decode b_P_obey 63 = .ok (.putfield 28, 3) := by decide +kernel
theorem d_P_obey_66 : decode b_P_obey 66 = .ok (.aload_n 0, 1) := by decide +kernel
theorem d_P_obey_67 : decode b_P_obey 67 = .ok (.iload_n 2, 1) := by decide +kernel
theorem d_P_obey_68 : decode b_P_obey 68 = .ok (.putfield 31, 3) := by decide +kernel
theorem d_P_obey_71 : decode b_P_obey 71 = .ok (.iconst 1, 1) := by decide +kernel
theorem d_P_obey_72 : decode b_P_obey 72 = .ok (.ireturn, 1) := by decide +kernel
theorem d_P_obey_73 : decode b_P_obey 73 = .ok (.aload_n 0, 1) := by decide +kernel
theorem d_P_obey_74 : decode b_P_obey 74 = .ok (.iconst 3, 1) := by decide +kernel
theorem d_P_obey_75 : decode b_P_obey 75 = .ok (.putfield 28, 3) := by decide +kernel
theorem d_P_obey_78 : decode b_P_obey 78 = .ok (.aload_n 0, 1) := by decide +kernel
theorem d_P_obey_79 : decode b_P_obey 79 = .ok (.iload_n 2, 1) := by decide +kernel
theorem d_P_obey_80 : decode b_P_obey 80 = .ok (.putfield 31, 3) := by decide +kernel
theorem d_P_obey_83 : decode b_P_obey 83 = .ok (.iconst 1, 1) := by decide +kernel
theorem d_P_obey_84 : decode b_P_obey 84 = .ok (.ireturn, 1) := by decide +kernel
theorem d_P_take_0 : decode b_P_take 0 = .ok (.aload_n 0, 1) := by decide +kernel
theorem d_P_take_1 : decode b_P_take 1 = .ok (.getfield 28, 3) := by decide +kernel
theorem d_P_take_4 : decode b_P_take 4 = .ok (.tableswitch 69 1 3 #[28, 40, 50], 28) := by decide +kernel
theorem d_P_take_32 : decode b_P_take 32 = .ok (.aload_n 0, 1) := by decide +kernel
theorem d_P_take_33 : decode b_P_take 33 = .ok (.iload_n 1, 1) := by decide +kernel
theorem d_P_take_34 : decode b_P_take 34 = .ok (.putfield 19, 3) := by decide +kernel
theorem d_P_take_37 : decode b_P_take 37 = .ok (.aload_n 0, 1) := by decide +kernel
theorem d_P_take_38 : decode b_P_take 38 = .ok (.iconst 0, 1) := by decide +kernel
theorem d_P_take_39 : decode b_P_take 39 = .ok (.putfield 28, 3) := by decide +kernel
theorem d_P_take_42 : decode b_P_take 42 = .ok (.iconst 1, 1) := by decide +kernel
theorem d_P_take_43 : decode b_P_take 43 = .ok (.ireturn, 1) := by decide +kernel
theorem d_P_take_44 : decode b_P_take 44 = .ok (.aload_n 0, 1) := by decide +kernel
theorem d_P_take_45 : decode b_P_take 45 = .ok (.invokevirtual 34, 3) := by decide +kernel
theorem d_P_take_48 : decode b_P_take 48 = .ok (.aload_n 0, 1) := by decide +kernel
theorem d_P_take_49 : decode b_P_take 49 = .ok (.iload_n 1, 1) := by decide +kernel
theorem d_P_take_50 : decode b_P_take 50 = .ok (.invokevirtual 37, 3) := by decide +kernel
theorem d_P_take_53 : decode b_P_take 53 = .ok (.ireturn, 1) := by decide +kernel
theorem d_P_take_54 : decode b_P_take 54 = .ok (.aload_n 0, 1) := by decide +kernel
theorem d_P_take_55 : decode b_P_take 55 = .ok (.invokevirtual 34, 3) := by decide +kernel
theorem d_P_take_58 : decode b_P_take 58 = .ok (.aload_n 0, 1) := by decide +kernel
theorem d_P_take_59 : decode b_P_take 59 = .ok (.iload_n 1, 1) := by decide +kernel
theorem d_P_take_60 : decode b_P_take 60 = .ok (.aload_n 0, 1) := by decide +kernel
theorem d_P_take_61 : decode b_P_take 61 = .ok (.invokevirtual 41, 3) := by decide +kernel
theorem d_P_take_64 : decode b_P_take 64 = .ok (.iadd, 1) := by decide +kernel
theorem d_P_take_65 : decode b_P_take 65 = .ok (.sipush 255, 3) := by decide +kernel
theorem d_P_take_68 : decode b_P_take 68 = .ok (.iand, 1) := by decide +kernel
theorem d_P_take_69 : decode b_P_take 69 = .ok (.invokevirtual 37, 3) := by decide +kernel
theorem d_P_take_72 : decode b_P_take 72 = .ok (.ireturn, 1) := by decide +kernel
theorem d_P_take_73 : decode b_P_take 73 = .ok (.aload_n 0, 1) := by decide +kernel
theorem d_P_take_74 : decode b_P_take 74 = .ok (.iload_n 1, 1) := by decide +kernel
theorem d_P_take_75 : decode b_P_take 75 = .ok (.invokevirtual 45, 3) := by decide +kernel
theorem d_P_take_78 : decode b_P_take 78 = .ok (.ireturn, 1) := by decide +kernel
theorem d_P_seal_0 : decode b_P_seal 0 = .ok (.aload_n 0, 1) := by decide +kernel
theorem d_P_seal_1 : decode b_P_seal 1 = .ok (.getfield 9, 3) := by decide +kernel
theorem d_P_seal_4 : decode b_P_seal 4 = .ok (.bipush 96, 2) := by decide +kernel
theorem d_P_seal_6 : decode b_P_seal 6 = .ok (.aload_n 0, 1) := by decide +kernel
theorem d_P_seal_7 : decode b_P_seal 7 = .ok (.getfield 22, 3) := by decide +kernel
theorem d_P_seal_10 : decode b_P_seal 10 = .ok (.aload_n 0, 1) := by decide +kernel
theorem d_P_seal_11 : decode b_P_seal 11 = .ok (.getfield 25, 3) := by decide +kernel
theorem d_P_seal_14 : decode b_P_seal 14 = .ok (.invokevirtual 48, 3) := by decide +kernel
theorem d_P_seal_17 : decode b_P_seal 17 = .ok (.istore_n 1, 1) := by decide +kernel
theorem d_P_seal_18 : decode b_P_seal 18 = .ok (.aload_n 0, 1) := by decide +kernel
theorem d_P_seal_19 : decode b_P_seal 19 = .ok (.getfield 9, 3) := by decide +kernel
theorem d_P_seal_22 : decode b_P_seal 22 = .ok (.bipush 99, 2) := by decide +kernel
theorem d_P_seal_24 : decode b_P_seal 24 = .ok (.iload_n 1, 1) := by decide +kernel
theorem d_P_seal_25 : decode b_P_seal 25 = .ok (.invokevirtual 54, 3) := by decide +kernel
theorem d_P_seal_28 : decode b_P_seal 28 = .ok (.ifCond .eq 54, 3) := by decide +kernel
theorem d_P_seal_31 : decode b_P_seal 31 = .ok (.aload_n 0, 1) := by decide +kernel
theorem d_P_seal_32 : decode b_P_seal 32 = .ok (.getfield 9, 3) := by decide +kernel
theorem d_P_seal_35 : decode b_P_seal 35 = .ok (.bipush 98, 2) := by decide +kernel
theorem d_P_seal_37 : decode b_P_seal 37 = .ok (.aload_n 0, 1) := by decide +kernel
theorem d_P_seal_38 : decode b_P_seal 38 = .ok (.getfield 25, 3) := by decide +kernel
theorem d_P_seal_41 : decode b_P_seal 41 = .ok (.invokevirtual 54, 3) := by decide +kernel
theorem d_P_seal_44 : decode b_P_seal 44 = .ok (.ifCond .eq 38, 3) := by decide +kernel
theorem d_P_seal_47 : decode b_P_seal 47 = .ok (.aload_n 0, 1) := by decide +kernel
theorem d_P_seal_48 : decode b_P_seal 48 = .ok (.getfield 9, 3) := by decide +kernel
theorem d_P_seal_51 : decode b_P_seal 51 = .ok (.bipush 97, 2) := by decide +kernel
theorem d_P_seal_53 : decode b_P_seal 53 = .ok (.aload_n 0, 1) := by decide +kernel
theorem d_P_seal_54 : decode b_P_seal 54 = .ok (.getfield 22, 3) := by decide +kernel
theorem d_P_seal_57 : decode b_P_seal 57 = .ok (.invokevirtual 54, 3) := by decide +kernel
theorem d_P_seal_60 : decode b_P_seal 60 = .ok (.ifCond .eq 22, 3) := by decide +kernel
theorem d_P_seal_63 : decode b_P_seal 63 = .ok (.aload_n 0, 1) := by decide +kernel
theorem d_P_seal_64 : decode b_P_seal 64 = .ok (.getfield 9, 3) := by decide +kernel
theorem d_P_seal_67 : decode b_P_seal 67 = .ok (.bipush 96, 2) := by decide +kernel
theorem d_P_seal_69 : decode b_P_seal 69 = .ok (.sipush 165, 3) := by decide +kernel
theorem d_P_seal_72 : decode b_P_seal 72 = .ok (.invokevirtual 54, 3) := by decide +kernel
theorem d_P_seal_75 : decode b_P_seal 75 = .ok (.ifCond .eq 7, 3) := by decide +kernel
theorem d_P_seal_78 : decode b_P_seal 78 = .ok (.iconst 1, 1) := by decide +kernel
theorem d_P_seal_79 : decode b_P_seal 79 = .ok (.goto 4, 3) := by decide +kernel
theorem d_P_seal_82 : decode b_P_seal 82 = .ok (.iconst 0, 1) := by decide +kernel
theorem d_P_seal_83 : decode b_P_seal 83 = .ok (.ireturn, 1) := by decide +kernel
set_option maxHeartbeats 4000000 in
set_option maxRecDepth 100000 in
theorem k_P_start (l : Launch) (D : va_G) (cA : ClassId) (aX aF aB aL aP : Nat) (st : St) (sz : Nat) (v n : Int32) : Cv l y_P_start b_P_start 3 none 0 D cA (CW cA aX aF aB aL aP) st sz [.ref aP, .int v, .int n] (fun u => u = (st.1, st.2.1, v, n, 4, 4, 0, 0)) := by
  refine Cv.enter (by decide) (Nat.le_of_ble_eq_true rfl) ?_
  intro pr en s0 m0 ar bl me co A ls hx hb hml hr hlk hown hts hK hN hA hP hD hS hl
  have hl : lv_has ls 3 [(0, .ref aP), (1, .int v), (2, .int n)] := hl
  have hown : s0.vm.findClass R_P = some m0.cls := hown
  refine lv_aload_n hx hb d_P_start_0 rfl (lv_at hl 0 rfl) ?_
  refine lv_iload_n hx hb d_P_start_1 rfl (lv_at hl 1 rfl) ?_
  refine va_put (D := D) (ci := 3) (v := .int v) (ty := .int) (C := R_P) (T := T_P) (N := 7) hx hb hts in_P ty_P ty_P_ok nm_P hown hK hP hD hS 4 rfl rfl 1 (by decide) (hts _ wm_53) (fun _ h9 => h9) rfl (ty_P_ok 1 (by decide)) rfl rfl (Nat.le_of_ble_eq_true rfl) d_P_start_2 (fun H locs hP hD hS => ?_)
  have hP : va_P D vwC (CW cA aX aF aB aL aP ((st.1.1, st.1.2.1, st.1.2.2.1, st.1.2.2.2), (st.2.1.1, st.2.1.2), (v, st.2.2.2.1, st.2.2.2.2.1, st.2.2.2.2.2.1, st.2.2.2.2.2.2.1, st.2.2.2.2.2.2.2))) H := hP
  have hD : va_D A (CW cA aX aF aB aL aP ((st.1.1, st.1.2.1, st.1.2.2.1, st.1.2.2.2), (st.2.1.1, st.2.1.2), (v, st.2.2.2.1, st.2.2.2.2.1, st.2.2.2.2.2.1, st.2.2.2.2.2.2.1, st.2.2.2.2.2.2.2))) := hD
  refine lv_aload_n hx hb d_P_start_5 rfl (lv_at hl 0 rfl) ?_
  refine lv_iload_n hx hb d_P_start_6 rfl (lv_at hl 2 rfl) ?_
  refine va_put (D := D) (ci := 3) (v := .int n) (ty := .int) (C := R_P) (T := T_P) (N := 7) hx hb hts in_P ty_P ty_P_ok nm_P hown hK hP hD hS 4 rfl rfl 2 (by decide) (hts _ wm_54) (fun _ h9 => h9) rfl (ty_P_ok 2 (by decide)) rfl rfl (Nat.le_of_ble_eq_true rfl) d_P_start_7 (fun H locs hP hD hS => ?_)
  have hP : va_P D vwC (CW cA aX aF aB aL aP ((st.1.1, st.1.2.1, st.1.2.2.1, st.1.2.2.2), (st.2.1.1, st.2.1.2), (v, n, st.2.2.2.2.1, st.2.2.2.2.2.1, st.2.2.2.2.2.2.1, st.2.2.2.2.2.2.2))) H := hP
  have hD : va_D A (CW cA aX aF aB aL aP ((st.1.1, st.1.2.1, st.1.2.2.1, st.1.2.2.2), (st.2.1.1, st.2.1.2), (v, n, st.2.2.2.2.1, st.2.2.2.2.2.1, st.2.2.2.2.2.2.1, st.2.2.2.2.2.2.2))) := hD
  refine lv_aload_n hx hb d_P_start_10 rfl (lv_at hl 0 rfl) ?_
  refine lv_iconst (v := 4) hx hb d_P_start_11 (by decide) ?_
  refine va_put (D := D) (ci := 3) (v := .int (4 : Int32)) (ty := .int) (C := R_P) (T := T_P) (N := 7) hx hb hts in_P ty_P ty_P_ok nm_P hown hK hP hD hS 4 rfl rfl 3 (by decide) (hts _ wm_55) (fun _ h9 => h9) rfl (ty_P_ok 3 (by decide)) rfl rfl (Nat.le_of_ble_eq_true rfl) d_P_start_12 (fun H locs hP hD hS => ?_)
  have hP : va_P D vwC (CW cA aX aF aB aL aP ((st.1.1, st.1.2.1, st.1.2.2.1, st.1.2.2.2), (st.2.1.1, st.2.1.2), (v, n, (4 : Int32), st.2.2.2.2.2.1, st.2.2.2.2.2.2.1, st.2.2.2.2.2.2.2))) H := hP
  have hD : va_D A (CW cA aX aF aB aL aP ((st.1.1, st.1.2.1, st.1.2.2.1, st.1.2.2.2), (st.2.1.1, st.2.1.2), (v, n, (4 : Int32), st.2.2.2.2.2.1, st.2.2.2.2.2.2.1, st.2.2.2.2.2.2.2))) := hD
  refine lv_aload_n hx hb d_P_start_15 rfl (lv_at hl 0 rfl) ?_
  refine lv_iconst (v := 4) hx hb d_P_start_16 (by decide) ?_
  refine va_put (D := D) (ci := 3) (v := .int (4 : Int32)) (ty := .int) (C := R_P) (T := T_P) (N := 7) hx hb hts in_P ty_P ty_P_ok nm_P hown hK hP hD hS 4 rfl rfl 4 (by decide) (hts _ wm_56) (fun _ h9 => h9) rfl (ty_P_ok 4 (by decide)) rfl rfl (Nat.le_of_ble_eq_true rfl) d_P_start_17 (fun H locs hP hD hS => ?_)
  have hP : va_P D vwC (CW cA aX aF aB aL aP ((st.1.1, st.1.2.1, st.1.2.2.1, st.1.2.2.2), (st.2.1.1, st.2.1.2), (v, n, (4 : Int32), (4 : Int32), st.2.2.2.2.2.2.1, st.2.2.2.2.2.2.2))) H := hP
  have hD : va_D A (CW cA aX aF aB aL aP ((st.1.1, st.1.2.1, st.1.2.2.1, st.1.2.2.2), (st.2.1.1, st.2.1.2), (v, n, (4 : Int32), (4 : Int32), st.2.2.2.2.2.2.1, st.2.2.2.2.2.2.2))) := hD
  refine lv_aload_n hx hb d_P_start_20 rfl (lv_at hl 0 rfl) ?_
  refine lv_iconst (v := 0) hx hb d_P_start_21 (by decide) ?_
  refine va_put (D := D) (ci := 3) (v := .int (0 : Int32)) (ty := .int) (C := R_P) (T := T_P) (N := 7) hx hb hts in_P ty_P ty_P_ok nm_P hown hK hP hD hS 4 rfl rfl 5 (by decide) (hts _ wm_57) (fun _ h9 => h9) rfl (ty_P_ok 5 (by decide)) rfl rfl (Nat.le_of_ble_eq_true rfl) d_P_start_22 (fun H locs hP hD hS => ?_)
  have hP : va_P D vwC (CW cA aX aF aB aL aP ((st.1.1, st.1.2.1, st.1.2.2.1, st.1.2.2.2), (st.2.1.1, st.2.1.2), (v, n, (4 : Int32), (4 : Int32), (0 : Int32), st.2.2.2.2.2.2.2))) H := hP
  have hD : va_D A (CW cA aX aF aB aL aP ((st.1.1, st.1.2.1, st.1.2.2.1, st.1.2.2.2), (st.2.1.1, st.2.1.2), (v, n, (4 : Int32), (4 : Int32), (0 : Int32), st.2.2.2.2.2.2.2))) := hD
  refine lv_aload_n hx hb d_P_start_25 rfl (lv_at hl 0 rfl) ?_
  refine lv_iconst (v := 0) hx hb d_P_start_26 (by decide) ?_
  refine va_put (D := D) (ci := 3) (v := .int (0 : Int32)) (ty := .int) (C := R_P) (T := T_P) (N := 7) hx hb hts in_P ty_P ty_P_ok nm_P hown hK hP hD hS 4 rfl rfl 6 (by decide) (hts _ wm_58) (fun _ h9 => h9) rfl (ty_P_ok 6 (by decide)) rfl rfl (Nat.le_of_ble_eq_true rfl) d_P_start_27 (fun H locs hP hD hS => ?_)
  have hP : va_P D vwC (CW cA aX aF aB aL aP ((st.1.1, st.1.2.1, st.1.2.2.1, st.1.2.2.2), (st.2.1.1, st.2.1.2), (v, n, (4 : Int32), (4 : Int32), (0 : Int32), (0 : Int32)))) H := hP
  have hD : va_D A (CW cA aX aF aB aL aP ((st.1.1, st.1.2.1, st.1.2.2.1, st.1.2.2.2), (st.2.1.1, st.2.1.2), (v, n, (4 : Int32), (4 : Int32), (0 : Int32), (0 : Int32)))) := hD
  refine sw_vret (u := ((st.1.1, st.1.2.1, st.1.2.2.1, st.1.2.2.2), (st.2.1.1, st.2.1.2), (v, n, (4 : Int32), (4 : Int32), (0 : Int32), (0 : Int32)))) hx hb hr hlk hK hP hD hS d_P_start_30 ?_
  rfl
set_option maxHeartbeats 4000000 in
set_option maxRecDepth 100000 in
theorem k_P_end (l : Launch) (D : va_G) (cA : ClassId) (aX aF aB aL aP : Nat) (st : St) (sz : Nat) : Cv l y_P_end b_P_end 1 none 0 D cA (CW cA aX aF aB aL aP) st sz [.ref aP] (fun u => u = (st.1, st.2.1, st.2.2.1, st.2.2.2.1, 0, 0, st.2.2.2.2.2.2.1, st.2.2.2.2.2.2.2)) := by
  refine Cv.enter (by decide) (Nat.le_of_ble_eq_true rfl) ?_
  intro pr en s0 m0 ar bl me co A ls hx hb hml hr hlk hown hts hK hN hA hP hD hS hl
  have hl : lv_has ls 1 [(0, .ref aP)] := hl
  have hown : s0.vm.findClass R_P = some m0.cls := hown
  refine lv_aload_n hx hb d_P_end_0 rfl (lv_at hl 0 rfl) ?_
  refine lv_iconst (v := 0) hx hb d_P_end_1 (by decide) ?_
  refine va_put (D := D) (ci := 3) (v := .int (0 : Int32)) (ty := .int) (C := R_P) (T := T_P) (N := 7) hx hb hts in_P ty_P ty_P_ok nm_P hown hK hP hD hS 4 rfl rfl 3 (by decide) (hts _ wm_55) (fun _ h9 => h9) rfl (ty_P_ok 3 (by decide)) rfl rfl (Nat.le_of_ble_eq_true rfl) d_P_end_2 (fun H locs hP hD hS => ?_)
  have hP : va_P D vwC (CW cA aX aF aB aL aP ((st.1.1, st.1.2.1, st.1.2.2.1, st.1.2.2.2), (st.2.1.1, st.2.1.2), (st.2.2.1, st.2.2.2.1, (0 : Int32), st.2.2.2.2.2.1, st.2.2.2.2.2.2.1, st.2.2.2.2.2.2.2))) H := hP
  have hD : va_D A (CW cA aX aF aB aL aP ((st.1.1, st.1.2.1, st.1.2.2.1, st.1.2.2.2), (st.2.1.1, st.2.1.2), (st.2.2.1, st.2.2.2.1, (0 : Int32), st.2.2.2.2.2.1, st.2.2.2.2.2.2.1, st.2.2.2.2.2.2.2))) := hD
  refine lv_aload_n hx hb d_P_end_5 rfl (lv_at hl 0 rfl) ?_
  refine lv_iconst (v := 0) hx hb d_P_end_6 (by decide) ?_
  refine va_put (D := D) (ci := 3) (v := .int (0 : Int32)) (ty := .int) (C := R_P) (T := T_P) (N := 7) hx hb hts in_P ty_P ty_P_ok nm_P hown hK hP hD hS 4 rfl rfl 4 (by decide) (hts _ wm_56) (fun _ h9 => h9) rfl (ty_P_ok 4 (by decide)) rfl rfl (Nat.le_of_ble_eq_true rfl) d_P_end_7 (fun H locs hP hD hS => ?_)
  have hP : va_P D vwC (CW cA aX aF aB aL aP ((st.1.1, st.1.2.1, st.1.2.2.1, st.1.2.2.2), (st.2.1.1, st.2.1.2), (st.2.2.1, st.2.2.2.1, (0 : Int32), (0 : Int32), st.2.2.2.2.2.2.1, st.2.2.2.2.2.2.2))) H := hP
  have hD : va_D A (CW cA aX aF aB aL aP ((st.1.1, st.1.2.1, st.1.2.2.1, st.1.2.2.2), (st.2.1.1, st.2.1.2), (st.2.2.1, st.2.2.2.1, (0 : Int32), (0 : Int32), st.2.2.2.2.2.2.1, st.2.2.2.2.2.2.2))) := hD
  refine sw_vret (u := ((st.1.1, st.1.2.1, st.1.2.2.1, st.1.2.2.2), (st.2.1.1, st.2.1.2), (st.2.2.1, st.2.2.2.1, (0 : Int32), (0 : Int32), st.2.2.2.2.2.2.1, st.2.2.2.2.2.2.2))) hx hb hr hlk hK hP hD hS d_P_end_10 ?_
  rfl
set_option maxHeartbeats 4000000 in
set_option maxRecDepth 100000 in
theorem k_P_isOpen (l : Launch) (D : va_G) (cA : ClassId) (aX aF aB aL aP : Nat) (st : St) (sz : Nat) : Ci l y_P_isOpen b_P_isOpen 1 (some .boolean) 0 D cA (CW cA aX aF aB aL aP) st sz [.ref aP] (fun r u => r = b2i (copen st) ∧ u = st) := by
  refine Ci.enter (by decide) (Nat.le_of_ble_eq_true rfl) ?_
  intro pr en s0 m0 ar bl me co A ls hx hb hml hr hlk hown hts hK hN hA hP hD hS hl
  have hl : lv_has ls 1 [(0, .ref aP)] := hl
  have hown : s0.vm.findClass R_P = some m0.cls := hown
  refine lv_aload_n hx hb d_P_isOpen_0 rfl (lv_at hl 0 rfl) ?_
  refine va_get (D := D) (ci := 3) (v := .int st.2.2.2.2.1) (C := R_P) (T := T_P) (N := 7) hx hb hts in_P hown hK hP 4 rfl rfl 3 (by decide) (hts _ wm_55) (fun _ h9 => h9) rfl d_P_isOpen_1 ?_
  refine lv_if_eq (tgt := 22) hx hb d_P_isOpen_4 (by decide) (fun h4 => ?_) (fun h4 => ?_)
  · skip
    refine lv_iconst (v := 0) hx hb d_P_isOpen_22 (by decide) ?_
    refine sw_iret (u := st) (v := (0 : Int32)) hx hb hr hlk hK hP hD hS d_P_isOpen_23 rfl ?_
    exact ⟨b2i_f (fun q => q.1 h4), rfl⟩
  · skip
    refine lv_aload_n hx hb d_P_isOpen_7 rfl (lv_at hl 0 rfl) ?_
    refine va_get (D := D) (ci := 3) (v := .int st.2.2.2.2.1) (C := R_P) (T := T_P) (N := 7) hx hb hts in_P hown hK hP 4 rfl rfl 3 (by decide) (hts _ wm_55) (fun _ h9 => h9) rfl d_P_isOpen_8 ?_
    refine lv_aload_n hx hb d_P_isOpen_11 rfl (lv_at hl 0 rfl) ?_
    refine va_get (D := D) (ci := 3) (v := .int st.2.2.2.1) (C := R_P) (T := T_P) (N := 7) hx hb hts in_P hown hK hP 4 rfl rfl 2 (by decide) (hts _ wm_54) (fun _ h9 => h9) rfl d_P_isOpen_12 ?_
    refine lv_icmp_ge (tgt := 22) hx hb d_P_isOpen_15 (by decide) (fun h15 => ?_) (fun h15 => ?_)
    · skip
      refine lv_iconst (v := 0) hx hb d_P_isOpen_22 (by decide) ?_
      refine sw_iret (u := st) (v := (0 : Int32)) hx hb hr hlk hK hP hD hS d_P_isOpen_23 rfl ?_
      exact ⟨b2i_f (fun q => q.2 h15), rfl⟩
    · skip
      refine lv_iconst (v := 1) hx hb d_P_isOpen_18 (by decide) ?_
      refine lv_goto (tgt := 23) hx hb d_P_isOpen_19 (by decide) ?_
      refine sw_iret (u := st) (v := (1 : Int32)) hx hb hr hlk hK hP hD hS d_P_isOpen_23 rfl ?_
      exact ⟨b2i_t ⟨h4, h15⟩, rfl⟩
set_option maxHeartbeats 4000000 in
set_option maxRecDepth 100000 in
theorem k_P_nextByte (l : Launch) (D : va_G) (cA : ClassId) (aX aF aB aL aP : Nat) (st : St) (sz : Nat) : Ci l y_P_nextByte b_P_nextByte 1 (some .int) 0 D cA (CW cA aX aF aB aL aP) st sz [.ref aP] (fun r u => r = st.2.2.2.2.1 ∧ u = st) := by
  refine Ci.enter (by decide) (Nat.le_of_ble_eq_true rfl) ?_
  intro pr en s0 m0 ar bl me co A ls hx hb hml hr hlk hown hts hK hN hA hP hD hS hl
  have hl : lv_has ls 1 [(0, .ref aP)] := hl
  have hown : s0.vm.findClass R_P = some m0.cls := hown
  refine lv_aload_n hx hb d_P_nextByte_0 rfl (lv_at hl 0 rfl) ?_
  refine va_get (D := D) (ci := 3) (v := .int st.2.2.2.2.1) (C := R_P) (T := T_P) (N := 7) hx hb hts in_P hown hK hP 4 rfl rfl 3 (by decide) (hts _ wm_55) (fun _ h9 => h9) rfl d_P_nextByte_1 ?_
  refine sw_iret (u := st) (v := st.2.2.2.2.1) hx hb hr hlk hK hP hD hS d_P_nextByte_4 rfl ?_
  exact ⟨rfl, rfl⟩
set_option maxHeartbeats 4000000 in
set_option maxRecDepth 100000 in
theorem k_P_currentPlace (l : Launch) (D : va_G) (cA : ClassId) (aX aF aB aL aP : Nat) (st : St) (sz : Nat) : Ci l y_P_currentPlace b_P_currentPlace 1 (some .int) 0 D cA (CW cA aX aF aB aL aP) st sz [.ref aP] (fun r u => r = st.2.2.2.2.2.1 ∧ u = st) := by
  refine Ci.enter (by decide) (Nat.le_of_ble_eq_true rfl) ?_
  intro pr en s0 m0 ar bl me co A ls hx hb hml hr hlk hown hts hK hN hA hP hD hS hl
  have hl : lv_has ls 1 [(0, .ref aP)] := hl
  have hown : s0.vm.findClass R_P = some m0.cls := hown
  refine lv_aload_n hx hb d_P_currentPlace_0 rfl (lv_at hl 0 rfl) ?_
  refine va_get (D := D) (ci := 3) (v := .int st.2.2.2.2.2.1) (C := R_P) (T := T_P) (N := 7) hx hb hts in_P hown hK hP 4 rfl rfl 4 (by decide) (hts _ wm_56) (fun _ h9 => h9) rfl d_P_currentPlace_1 ?_
  refine sw_iret (u := st) (v := st.2.2.2.2.2.1) hx hb hr hlk hK hP hD hS d_P_currentPlace_4 rfl ?_
  exact ⟨rfl, rfl⟩
set_option maxHeartbeats 4000000 in
set_option maxRecDepth 100000 in
theorem k_P_countFed (l : Launch) (D : va_G) (cA : ClassId) (aX aF aB aL aP : Nat) (st : St) (sz : Nat) : Cv l y_P_countFed b_P_countFed 1 none 0 D cA (CW cA aX aF aB aL aP) st sz [.ref aP] (fun u => u = ccnt st) := by
  refine Cv.enter (by decide) (Nat.le_of_ble_eq_true rfl) ?_
  intro pr en s0 m0 ar bl me co A ls hx hb hml hr hlk hown hts hK hN hA hP hD hS hl
  have hl : lv_has ls 1 [(0, .ref aP)] := hl
  have hown : s0.vm.findClass R_P = some m0.cls := hown
  refine lv_aload_n hx hb d_P_countFed_0 rfl (lv_at hl 0 rfl) ?_
  refine lv_dup hx hb d_P_countFed_1 rfl ?_
  refine va_get (D := D) (ci := 3) (v := .int st.2.2.2.2.2.2.2) (C := R_P) (T := T_P) (N := 7) hx hb hts in_P hown hK hP 4 rfl rfl 6 (by decide) (hts _ wm_58) (fun _ h9 => h9) rfl d_P_countFed_2 ?_
  refine lv_iconst (v := 1) hx hb d_P_countFed_5 (by decide) ?_
  refine lv_isub hx hb d_P_countFed_6 ?_
  refine va_put (D := D) (ci := 3) (v := .int (st.2.2.2.2.2.2.2 - (1 : Int32))) (ty := .int) (C := R_P) (T := T_P) (N := 7) hx hb hts in_P ty_P ty_P_ok nm_P hown hK hP hD hS 4 rfl rfl 6 (by decide) (hts _ wm_58) (fun _ h9 => h9) rfl (ty_P_ok 6 (by decide)) rfl rfl (Nat.le_of_ble_eq_true rfl) d_P_countFed_7 (fun H locs hP hD hS => ?_)
  have hP : va_P D vwC (CW cA aX aF aB aL aP ((st.1.1, st.1.2.1, st.1.2.2.1, st.1.2.2.2), (st.2.1.1, st.2.1.2), (st.2.2.1, st.2.2.2.1, st.2.2.2.2.1, st.2.2.2.2.2.1, st.2.2.2.2.2.2.1, (st.2.2.2.2.2.2.2 - (1 : Int32))))) H := hP
  have hD : va_D A (CW cA aX aF aB aL aP ((st.1.1, st.1.2.1, st.1.2.2.1, st.1.2.2.2), (st.2.1.1, st.2.1.2), (st.2.2.1, st.2.2.2.1, st.2.2.2.2.1, st.2.2.2.2.2.1, st.2.2.2.2.2.2.1, (st.2.2.2.2.2.2.2 - (1 : Int32))))) := hD
  refine lv_aload_n hx hb d_P_countFed_10 rfl (lv_at hl 0 rfl) ?_
  refine va_get (D := D) (ci := 3) (v := .int ((st.2.2.2.2.2.2.2 - (1 : Int32)))) (C := R_P) (T := T_P) (N := 7) hx hb hts in_P hown hK hP 4 rfl rfl 6 (by decide) (hts _ wm_58) (fun _ h9 => h9) rfl d_P_countFed_11 ?_
  refine lv_if_ne (tgt := 22) hx hb d_P_countFed_14 (by decide) (fun h14 => ?_) (fun h14 => ?_)
  · skip
    refine sw_vret (u := ((st.1.1, st.1.2.1, st.1.2.2.1, st.1.2.2.2), (st.2.1.1, st.2.1.2), (st.2.2.1, st.2.2.2.1, st.2.2.2.2.1, st.2.2.2.2.2.1, st.2.2.2.2.2.2.1, (st.2.2.2.2.2.2.2 - (1 : Int32))))) hx hb hr hlk hK hP hD hS d_P_countFed_22 ?_
    show _ = ccnt st
    unfold ccnt
    first | rw [if_neg h14] | rw [if_pos h14]
  · skip
    refine lv_aload_n hx hb d_P_countFed_17 rfl (lv_at hl 0 rfl) ?_
    refine lv_iconst (v := 0) hx hb d_P_countFed_18 (by decide) ?_
    refine va_put (D := D) (ci := 3) (v := .int (0 : Int32)) (ty := .int) (C := R_P) (T := T_P) (N := 7) hx hb hts in_P ty_P ty_P_ok nm_P hown hK hP hD hS 4 rfl rfl 5 (by decide) (hts _ wm_57) (fun _ h9 => h9) rfl (ty_P_ok 5 (by decide)) rfl rfl (Nat.le_of_ble_eq_true rfl) d_P_countFed_19 (fun H locs hP hD hS => ?_)
    have hP : va_P D vwC (CW cA aX aF aB aL aP ((st.1.1, st.1.2.1, st.1.2.2.1, st.1.2.2.2), (st.2.1.1, st.2.1.2), (st.2.2.1, st.2.2.2.1, st.2.2.2.2.1, st.2.2.2.2.2.1, (0 : Int32), (st.2.2.2.2.2.2.2 - (1 : Int32))))) H := hP
    have hD : va_D A (CW cA aX aF aB aL aP ((st.1.1, st.1.2.1, st.1.2.2.1, st.1.2.2.2), (st.2.1.1, st.2.1.2), (st.2.2.1, st.2.2.2.1, st.2.2.2.2.1, st.2.2.2.2.2.1, (0 : Int32), (st.2.2.2.2.2.2.2 - (1 : Int32))))) := hD
    refine sw_vret (u := ((st.1.1, st.1.2.1, st.1.2.2.1, st.1.2.2.2), (st.2.1.1, st.2.1.2), (st.2.2.1, st.2.2.2.1, st.2.2.2.2.1, st.2.2.2.2.2.1, (0 : Int32), (st.2.2.2.2.2.2.2 - (1 : Int32))))) hx hb hr hlk hK hP hD hS d_P_countFed_22 ?_
    show _ = ccnt st
    unfold ccnt
    first | rw [if_neg h14] | rw [if_pos h14]
set_option maxHeartbeats 4000000 in
set_option maxRecDepth 100000 in
theorem k_P_takeFromMain (l : Launch) (D : va_G) (cA : ClassId) (aX aF aB aL aP : Nat) (st : St) (sz : Nat) (q : Nat) (hq : st.2.2.2.2.2.1 = nI q) (hq2 : q < 2 ^ 30) : Ci l y_P_takeFromMain b_P_takeFromMain 2 (some .int) 1 D cA (CW cA aX aF aB aL aP) st sz [.ref aP] (fun r u => r = cmb st.1.1 q ∧ u = cplc st) := by
  refine Ci.enter (by decide) (Nat.le_of_ble_eq_true rfl) ?_
  intro pr en s0 m0 ar bl me co A ls hx hb hml hr hlk hown hts hK hN hA hP hD hS hl
  have hl : lv_has ls 2 [(0, .ref aP)] := hl
  have hown : s0.vm.findClass R_P = some m0.cls := hown
  refine lv_aload_n hx hb d_P_takeFromMain_0 rfl (lv_at hl 0 rfl) ?_
  refine va_get (D := D) (ci := 3) (v := .int st.2.2.2.2.2.1) (C := R_P) (T := T_P) (N := 7) hx hb hts in_P hown hK hP 4 rfl rfl 4 (by decide) (hts _ wm_56) (fun _ h9 => h9) rfl d_P_takeFromMain_1 ?_
  refine sw_tp (y := nI q) hq ?_
  refine lv_bipush (v := 96) hx hb d_P_takeFromMain_4 (by decide) ?_
  refine sw_nc_ge (a := q) (b := 96) (tgt := 25) hx hb (by omega) (by omega) d_P_takeFromMain_6 (by decide) (fun h6 => ?_) (fun h6 => ?_)
  · skip
    refine lv_iconst (v := 0) hx hb d_P_takeFromMain_25 (by decide) ?_
    refine lv_istore_n hx hb d_P_takeFromMain_26 rfl hl (by decide) rfl (fun ls hl => ?_)
    have hl : lv_has ls 2 [(1, .int (0 : Int32)), (0, .ref aP)] := hl
    refine lv_aload_n hx hb d_P_takeFromMain_27 rfl (lv_at hl 1 rfl) ?_
    refine lv_dup hx hb d_P_takeFromMain_28 rfl ?_
    refine va_get (D := D) (ci := 3) (v := .int st.2.2.2.2.2.1) (C := R_P) (T := T_P) (N := 7) hx hb hts in_P hown hK hP 4 rfl rfl 4 (by decide) (hts _ wm_56) (fun _ h9 => h9) rfl d_P_takeFromMain_29 ?_
    refine lv_iconst (v := 1) hx hb d_P_takeFromMain_32 (by decide) ?_
    refine lv_iadd hx hb d_P_takeFromMain_33 ?_
    refine va_put (D := D) (ci := 3) (v := .int (st.2.2.2.2.2.1 + (1 : Int32))) (ty := .int) (C := R_P) (T := T_P) (N := 7) hx hb hts in_P ty_P ty_P_ok nm_P hown hK hP hD hS 4 rfl rfl 4 (by decide) (hts _ wm_56) (fun _ h9 => h9) rfl (ty_P_ok 4 (by decide)) rfl rfl (Nat.le_of_ble_eq_true rfl) d_P_takeFromMain_34 (fun H locs hP hD hS => ?_)
    have hP : va_P D vwC (CW cA aX aF aB aL aP ((st.1.1, st.1.2.1, st.1.2.2.1, st.1.2.2.2), (st.2.1.1, st.2.1.2), (st.2.2.1, st.2.2.2.1, st.2.2.2.2.1, (st.2.2.2.2.2.1 + (1 : Int32)), st.2.2.2.2.2.2.1, st.2.2.2.2.2.2.2))) H := hP
    have hD : va_D A (CW cA aX aF aB aL aP ((st.1.1, st.1.2.1, st.1.2.2.1, st.1.2.2.2), (st.2.1.1, st.2.1.2), (st.2.2.1, st.2.2.2.1, st.2.2.2.2.1, (st.2.2.2.2.2.1 + (1 : Int32)), st.2.2.2.2.2.2.1, st.2.2.2.2.2.2.2))) := hD
    refine lv_iload_n hx hb d_P_takeFromMain_37 rfl (lv_at hl 0 rfl) ?_
    refine sw_iret (u := ((st.1.1, st.1.2.1, st.1.2.2.1, st.1.2.2.2), (st.2.1.1, st.2.1.2), (st.2.2.1, st.2.2.2.1, st.2.2.2.2.1, (st.2.2.2.2.2.1 + (1 : Int32)), st.2.2.2.2.2.2.1, st.2.2.2.2.2.2.2))) (v := (0 : Int32)) hx hb hr hlk hK hP hD hS d_P_takeFromMain_38 rfl ?_
    exact ⟨(if_neg (by omega)).symm, rfl⟩
  · skip
    refine lv_aload_n hx hb d_P_takeFromMain_9 rfl (lv_at hl 0 rfl) ?_
    refine va_get (D := D) (ci := 3) (v := .ref aF) (C := R_P) (T := T_P) (N := 7) hx hb hts in_P hown hK hP 4 rfl rfl 0 (by decide) (hts _ wm_52) (fun _ h9 => h9) rfl d_P_takeFromMain_10 ?_
    refine lv_iconst (v := 0) hx hb d_P_takeFromMain_13 (by decide) ?_
    refine lv_aload_n hx hb d_P_takeFromMain_14 rfl (lv_at hl 0 rfl) ?_
    refine va_get (D := D) (ci := 3) (v := .int st.2.2.2.2.2.1) (C := R_P) (T := T_P) (N := 7) hx hb hts in_P hown hK hP 4 rfl rfl 4 (by decide) (hts _ wm_56) (fun _ h9 => h9) rfl d_P_takeFromMain_15 ?_
    refine sw_tp (y := nI q) hq ?_
    refine lv_iadd hx hb d_P_takeFromMain_18 ?_
    refine sw_tp (y := nI q) ((nI_add 0 q).trans (niE (by omega))) ?_
    refine sw_callVi (rest := []) 1 1 [.int (nI q)] hx hb hml hown hts hK hN hA hP hD hS (k_F_read l D cA aX aF aB aL aP st _ q (by omega)) cw_P_67 rfl rfl rfl ⟨Nat.le_of_ble_eq_true rfl, Nat.le_of_ble_eq_true rfl⟩ hl.1 rfl rfl (Nat.le_of_ble_eq_true rfl) d_P_takeFromMain_19 (fun r19 u19 H locs hq19 hP hD hS => ?_)
    obtain ⟨hr19, hq19⟩ := hq19
    rw [hr19]
    rw [hq19] at hP hD
    refine lv_goto (tgt := 26) hx hb d_P_takeFromMain_22 (by decide) ?_
    refine lv_istore_n hx hb d_P_takeFromMain_26 rfl hl (by decide) rfl (fun ls hl => ?_)
    have hl : lv_has ls 2 [(1, .int (st.1.1 q)), (0, .ref aP)] := hl
    refine lv_aload_n hx hb d_P_takeFromMain_27 rfl (lv_at hl 1 rfl) ?_
    refine lv_dup hx hb d_P_takeFromMain_28 rfl ?_
    refine va_get (D := D) (ci := 3) (v := .int st.2.2.2.2.2.1) (C := R_P) (T := T_P) (N := 7) hx hb hts in_P hown hK hP 4 rfl rfl 4 (by decide) (hts _ wm_56) (fun _ h9 => h9) rfl d_P_takeFromMain_29 ?_
    refine lv_iconst (v := 1) hx hb d_P_takeFromMain_32 (by decide) ?_
    refine lv_iadd hx hb d_P_takeFromMain_33 ?_
    refine va_put (D := D) (ci := 3) (v := .int (st.2.2.2.2.2.1 + (1 : Int32))) (ty := .int) (C := R_P) (T := T_P) (N := 7) hx hb hts in_P ty_P ty_P_ok nm_P hown hK hP hD hS 4 rfl rfl 4 (by decide) (hts _ wm_56) (fun _ h9 => h9) rfl (ty_P_ok 4 (by decide)) rfl rfl (Nat.le_of_ble_eq_true rfl) d_P_takeFromMain_34 (fun H locs hP hD hS => ?_)
    have hP : va_P D vwC (CW cA aX aF aB aL aP ((st.1.1, st.1.2.1, st.1.2.2.1, st.1.2.2.2), (st.2.1.1, st.2.1.2), (st.2.2.1, st.2.2.2.1, st.2.2.2.2.1, (st.2.2.2.2.2.1 + (1 : Int32)), st.2.2.2.2.2.2.1, st.2.2.2.2.2.2.2))) H := hP
    have hD : va_D A (CW cA aX aF aB aL aP ((st.1.1, st.1.2.1, st.1.2.2.1, st.1.2.2.2), (st.2.1.1, st.2.1.2), (st.2.2.1, st.2.2.2.1, st.2.2.2.2.1, (st.2.2.2.2.2.1 + (1 : Int32)), st.2.2.2.2.2.2.1, st.2.2.2.2.2.2.2))) := hD
    refine lv_iload_n hx hb d_P_takeFromMain_37 rfl (lv_at hl 0 rfl) ?_
    refine sw_iret (u := ((st.1.1, st.1.2.1, st.1.2.2.1, st.1.2.2.2), (st.2.1.1, st.2.1.2), (st.2.2.1, st.2.2.2.1, st.2.2.2.2.1, (st.2.2.2.2.2.1 + (1 : Int32)), st.2.2.2.2.2.2.1, st.2.2.2.2.2.2.2))) (v := (st.1.1 q)) hx hb hr hlk hK hP hD hS d_P_takeFromMain_38 rfl ?_
    exact ⟨(if_pos h6).symm, rfl⟩
set_option maxHeartbeats 4000000 in
set_option maxRecDepth 100000 in
theorem k_P_make (l : Launch) (D : va_G) (cA : ClassId) (aX aF aB aL aP : Nat) (st : St) (sz : Nat) (n : Nat) (v : Int32) (hn : st.2.2.2.2.1 = nI n) (h : n < 96) : Ci l y_P_make b_P_make 2 (some .boolean) 2 D cA (CW cA aX aF aB aL aP) st sz [.ref aP, .int v] (fun r u => r = b2i ((cmake n v st).2) ∧ u = (cmake n v st).1) := by
  refine Ci.enter (by decide) (Nat.le_of_ble_eq_true rfl) ?_
  intro pr en s0 m0 ar bl me co A ls hx hb hml hr hlk hown hts hK hN hA hP hD hS hl
  have hl : lv_has ls 2 [(0, .ref aP), (1, .int v)] := hl
  have hown : s0.vm.findClass R_P = some m0.cls := hown
  refine lv_aload_n hx hb d_P_make_0 rfl (lv_at hl 0 rfl) ?_
  refine va_get (D := D) (ci := 3) (v := .ref aF) (C := R_P) (T := T_P) (N := 7) hx hb hts in_P hown hK hP 4 rfl rfl 0 (by decide) (hts _ wm_52) (fun _ h9 => h9) rfl d_P_make_1 ?_
  refine lv_bipush (v := 96) hx hb d_P_make_4 (by decide) ?_
  refine lv_aload_n hx hb d_P_make_6 rfl (lv_at hl 0 rfl) ?_
  refine va_get (D := D) (ci := 3) (v := .int st.2.2.2.2.1) (C := R_P) (T := T_P) (N := 7) hx hb hts in_P hown hK hP 4 rfl rfl 3 (by decide) (hts _ wm_55) (fun _ h9 => h9) rfl d_P_make_7 ?_
  refine sw_tp (y := nI n) hn ?_
  refine lv_iadd hx hb d_P_make_10 ?_
  refine sw_tp (y := nI (96 + n)) (nI_add 96 n) ?_
  refine lv_iload_n hx hb d_P_make_11 rfl (lv_at hl 1 rfl) ?_
  refine sw_callVi (rest := []) 1 1 [.int (nI (96 + n)), .int v] hx hb hml hown hts hK hN hA hP hD hS (k_F_writeByte l D cA aX aF aB aL aP st _ (96 + n) v (by omega)) cw_P_54 rfl rfl rfl ⟨Nat.le_of_ble_eq_true rfl, Nat.le_of_ble_eq_true rfl⟩ hl.1 rfl rfl (Nat.le_of_ble_eq_true rfl) d_P_make_12 (fun r12 u12 H locs hq12 hP hD hS => ?_)
  obtain ⟨hr12, hu12⟩ := hq12
  rw [hr12]
  refine sw_bz_ne (tgt := 20) hx hb d_P_make_15 (by decide) (fun h15 => ?_) (fun h15 => ?_)
  · skip
    refine lv_aload_n hx hb d_P_make_20 rfl (lv_at hl 0 rfl) ?_
    refine lv_dup hx hb d_P_make_21 rfl ?_
    refine va_get (D := D) (ci := 3) (v := .int u12.2.2.2.2.1) (C := R_P) (T := T_P) (N := 7) hx hb hts in_P hown hK hP 4 rfl rfl 3 (by decide) (hts _ wm_55) (fun _ h9 => h9) rfl d_P_make_22 ?_
    refine lv_iconst (v := 1) hx hb d_P_make_25 (by decide) ?_
    refine lv_iadd hx hb d_P_make_26 ?_
    refine va_put (D := D) (ci := 3) (v := .int (u12.2.2.2.2.1 + (1 : Int32))) (ty := .int) (C := R_P) (T := T_P) (N := 7) hx hb hts in_P ty_P ty_P_ok nm_P hown hK hP hD hS 4 rfl rfl 3 (by decide) (hts _ wm_55) (fun _ h9 => h9) rfl (ty_P_ok 3 (by decide)) rfl rfl (Nat.le_of_ble_eq_true rfl) d_P_make_27 (fun H locs hP hD hS => ?_)
    have hP : va_P D vwC (CW cA aX aF aB aL aP ((u12.1.1, u12.1.2.1, u12.1.2.2.1, u12.1.2.2.2), (u12.2.1.1, u12.2.1.2), (u12.2.2.1, u12.2.2.2.1, (u12.2.2.2.2.1 + (1 : Int32)), u12.2.2.2.2.2.1, u12.2.2.2.2.2.2.1, u12.2.2.2.2.2.2.2))) H := hP
    have hD : va_D A (CW cA aX aF aB aL aP ((u12.1.1, u12.1.2.1, u12.1.2.2.1, u12.1.2.2.2), (u12.2.1.1, u12.2.1.2), (u12.2.2.1, u12.2.2.2.1, (u12.2.2.2.2.1 + (1 : Int32)), u12.2.2.2.2.2.1, u12.2.2.2.2.2.2.1, u12.2.2.2.2.2.2.2))) := hD
    refine lv_iconst (v := 1) hx hb d_P_make_30 (by decide) ?_
    refine sw_iret (u := ((u12.1.1, u12.1.2.1, u12.1.2.2.1, u12.1.2.2.2), (u12.2.1.1, u12.2.1.2), (u12.2.2.1, u12.2.2.2.1, (u12.2.2.2.2.1 + (1 : Int32)), u12.2.2.2.2.2.1, u12.2.2.2.2.2.2.1, u12.2.2.2.2.2.2.2))) (v := (1 : Int32)) hx hb hr hlk hK hP hD hS d_P_make_31 rfl ?_
    rw [cmake_yes (mz_ok h15), hu12]
    exact ⟨rfl, rfl⟩
  · skip
    refine lv_iconst (v := 0) hx hb d_P_make_18 (by decide) ?_
    refine sw_iret (u := u12) (v := (0 : Int32)) hx hb hr hlk hK hP hD hS d_P_make_19 rfl ?_
    rw [cmake_no (mz_no h15)]
    exact ⟨rfl, hu12⟩
set_option maxHeartbeats 4000000 in
set_option maxRecDepth 100000 in
theorem k_P_copy (l : Launch) (D : va_G) (cA : ClassId) (aX aF aB aL aP : Nat) (st : St) (sz : Nat) (k n q : Nat) (hn : st.2.2.2.2.1 = nI n) (hq : st.2.2.2.2.2.1 = nI q) (h : n + k ≤ 96) (hq2 : q + k < 2 ^ 30) : Ci l y_P_copy b_P_copy 3 (some .boolean) 3 D cA (CW cA aX aF aB aL aP) st sz [.ref aP, .int (nI k)] (fun r u => r = b2i ((ccopy k n q st).2) ∧ u = (ccopy k n q st).1) := by
  refine Ci.enter (by decide) (Nat.le_of_ble_eq_true rfl) ?_
  intro pr en s0 m0 ar bl me co A ls hx hb hml hr hlk hown hts hK hN hA hP hD hS hl
  have hl : lv_has ls 3 [(0, .ref aP), (1, .int (nI k))] := hl
  have hown : s0.vm.findClass R_P = some m0.cls := hown
  refine lv_iconst (v := 0) hx hb d_P_copy_0 (by decide) ?_
  refine lv_istore_n hx hb d_P_copy_1 rfl hl (by decide) rfl (fun ls hl => ?_)
  have hl : lv_has ls 3 [(2, .int (0 : Int32)), (0, .ref aP), (1, .int (nI k))] := hl
  have loop : ∀ (d : Nat) (i : Nat) (u : St) (H : Heap) (locs : List Loc) (ls : Array Slot), k - i = d → i ≤ k → ccopy (k - i) (n + i) (q + i) u = ccopy k n q st → u.2.2.2.2.1 = nI (n + i) → u.2.2.2.2.2.1 = nI (q + i) → lv_has ls 3 [(2, .int (nI i)), (0, .ref aP), (1, .int (nI k))] → va_P D vwC (CW cA aX aF aB aL aP u) H → va_D A (CW cA aX aF aB aL aP u) → va_S A s0.heap H locs → W pr l en (lvr 3) s0 m0 ar bl me co H locs 0 0 (MQ bl (va_Qi (fun r u => r = b2i ((ccopy k n q st).2) ∧ u = (ccopy k n q st).1) (sw_B D cA A (CW cA aX aF aB aL aP)) A) ar s0 0 0 A) (F0 m0 2 ls []) := by
    intro d
    induction d using Nat.strongRecOn with
    | ind d ih =>
      intro i u H locs ls hd hi hT hn1 hq1 hl hP hD hS
      refine lv_iload_n hx hb d_P_copy_2 rfl (lv_at hl 0 rfl) ?_
      refine lv_iload_n hx hb d_P_copy_3 rfl (lv_at hl 2 rfl) ?_
      refine sw_nc_ge (a := i) (b := k) (tgt := 26) hx hb (by omega) (by omega) d_P_copy_4 (by decide) (fun h4 => ?_) (fun h4 => ?_)
      · skip
        refine lv_iconst (v := 1) hx hb d_P_copy_26 (by decide) ?_
        refine sw_iret (u := u) (v := (1 : Int32)) hx hb hr hlk hK hP hD hS d_P_copy_27 rfl ?_
        have hi : i = k := by omega
        subst hi
        rw [Nat.sub_self, ccopy_0] at hT
        rw [← hT]
        exact ⟨rfl, rfl⟩
      · skip
        refine lv_aload_n hx hb d_P_copy_7 rfl (lv_at hl 1 rfl) ?_
        refine lv_aload_n hx hb d_P_copy_8 rfl (lv_at hl 1 rfl) ?_
        refine sw_callVi (rest := [.ref aP]) 4 3 [] hx hb hml hown hts hK hN hA hP hD hS (k_P_takeFromMain l D cA aX aF aB aL aP u _ (q + i) hq1 (by omega)) cw_P_41 rfl rfl rfl ⟨Nat.le_of_ble_eq_true rfl, Nat.le_of_ble_eq_true rfl⟩ hl.1 rfl rfl (Nat.le_of_ble_eq_true rfl) d_P_copy_9 (fun r9 u9 H locs hq9 hP hD hS => ?_)
        obtain ⟨hr9, hu9⟩ := hq9
        rw [hr9]
        refine sw_callVi (rest := []) 4 3 [.int (cmb u.1.1 (q + i))] hx hb hml hown hts hK hN hA hP hD hS (k_P_make l D cA aX aF aB aL aP u9 _ (n + i) (cmb u.1.1 (q + i)) (by rw [hu9]; exact hn1) (by omega)) cw_P_37 rfl rfl rfl ⟨Nat.le_of_ble_eq_true rfl, Nat.le_of_ble_eq_true rfl⟩ hl.1 rfl rfl (Nat.le_of_ble_eq_true rfl) d_P_copy_12 (fun r12 u12 H locs hq12 hP hD hS => ?_)
        obtain ⟨hr12, hu12⟩ := hq12
        rw [hr12]
        refine sw_bz_ne (tgt := 20) hx hb d_P_copy_15 (by decide) (fun h15 => ?_) (fun h15 => ?_)
        · skip
          refine lv_iinc (k := 0) (v := nI (i + 1)) hx hb d_P_copy_20 hl rfl (nI_1 _) (by decide) rfl (fun ls hl => ?_)
          have hl : lv_has ls 3 [(2, .int (nI (i + 1))), (0, .ref aP), (1, .int (nI k))] := hl
          refine lv_goto (tgt := 2) hx hb d_P_copy_23 (by decide) ?_
          exact ih (k - (i + 1)) (by omega) (i + 1) u12 _ _ _ rfl (by omega) (by rw [← hT, ccopy_yes (i := i) (by omega) (by rw [← hu9]; exact h15), ← hu9, ← hu12] <;> rfl) (by rw [hu12, cmake_nxt h15, hu9]; show u.2.2.2.2.1 + 1 = _; rw [hn1]; exact nI_1 _) (by rw [hu12, cmake_plc, hu9]; show u.2.2.2.2.2.1 + 1 = _; rw [hq1]; exact nI_1 _) (lv_sub hl [0, 1, 2] rfl) hP hD hS
        · skip
          refine lv_iconst (v := 0) hx hb d_P_copy_18 (by decide) ?_
          refine sw_iret (u := u12) (v := (0 : Int32)) hx hb hr hlk hK hP hD hS d_P_copy_19 rfl ?_
          have hz : ccopy k n q st = cmake (n + i) (cmb u.1.1 (q + i)) (cplc u) := by rw [← hT, ccopy_no (i := i) (by omega) (by rw [← hu9]; exact h15)]
          rw [hz, ← hu9, h15]
          exact ⟨rfl, hu12⟩
  exact loop _ 0 st _ _ _ rfl (by omega) rfl hn hq (lv_sub hl [0, 1, 2] rfl) hP hD hS
set_option maxHeartbeats 4000000 in
set_option maxRecDepth 100000 in
theorem k_P_obey (l : Launch) (D : va_G) (cA : ClassId) (aX aF aB aL aP : Nat) (st : St) (sz : Nat) (c Ln n q : Nat) (hc : c < 256) (hL : st.2.2.2.1 = nI Ln) (hn : st.2.2.2.2.1 = nI n) (hq : st.2.2.2.2.2.1 = nI q) (h1 : n ≤ Ln) (h2 : Ln ≤ 96) (hq2 : q < 2 ^ 29) : Ci l y_P_obey b_P_obey 3 (some .boolean) 4 D cA (CW cA aX aF aB aL aP) st sz [.ref aP, .int (nI c)] (fun r u => r = b2i ((cobey c Ln n q st).2) ∧ u = (cobey c Ln n q st).1) := by
  refine Ci.enter (by decide) (Nat.le_of_ble_eq_true rfl) ?_
  intro pr en s0 m0 ar bl me co A ls hx hb hml hr hlk hown hts hK hN hA hP hD hS hl
  have hl : lv_has ls 3 [(0, .ref aP), (1, .int (nI c))] := hl
  have hown : s0.vm.findClass R_P = some m0.cls := hown
  refine lv_iload_n hx hb d_P_obey_0 rfl (lv_at hl 1 rfl) ?_
  refine lv_bipush (v := 64) hx hb d_P_obey_1 (by decide) ?_
  refine lv_irem hx hb d_P_obey_3 (by decide) ?_
  refine sw_tp (y := nI (c % 64)) (pk_rem (a := c) (d := 64) (by omega) (by decide) (by decide)) ?_
  refine lv_iconst (v := 1) hx hb d_P_obey_4 (by decide) ?_
  refine lv_iadd hx hb d_P_obey_5 ?_
  refine sw_tp (y := nI ((c % 64) + 1)) (nI_add (c % 64) 1) ?_
  refine lv_aload_n hx hb d_P_obey_6 rfl (lv_at hl 0 rfl) ?_
  refine va_get (D := D) (ci := 3) (v := .int st.2.2.2.1) (C := R_P) (T := T_P) (N := 7) hx hb hts in_P hown hK hP 4 rfl rfl 2 (by decide) (hts _ wm_54) (fun _ h9 => h9) rfl d_P_obey_7 ?_
  refine sw_tp (y := nI Ln) hL ?_
  refine lv_aload_n hx hb d_P_obey_10 rfl (lv_at hl 0 rfl) ?_
  refine va_get (D := D) (ci := 3) (v := .int st.2.2.2.2.1) (C := R_P) (T := T_P) (N := 7) hx hb hts in_P hown hK hP 4 rfl rfl 3 (by decide) (hts _ wm_55) (fun _ h9 => h9) rfl d_P_obey_11 ?_
  refine sw_tp (y := nI n) hn ?_
  refine lv_isub hx hb d_P_obey_14 ?_
  refine sw_tp (y := nI (Ln - n)) (pk_sub (a := Ln) (b := n) (by omega)) ?_
  refine va_mmin hx hb (hml.trans hl.1.symm) hown (hts _ wm_248) (hts _ wm_249) (hts _ wm_7) (hts _ wm_250) (Nat.le_of_ble_eq_true rfl) (Nat.le_of_ble_eq_true rfl) (Nat.le_refl _) (Nat.le_refl _) d_P_obey_15 ?_
  refine sw_tp (y := nI (min ((c % 64) + 1) (Ln - n))) (pmin_n (by omega) (by omega)) ?_
  refine lv_istore_n hx hb d_P_obey_18 rfl hl (by decide) rfl (fun ls hl => ?_)
  have hl : lv_has ls 3 [(2, .int (nI (min ((c % 64) + 1) (Ln - n)))), (0, .ref aP), (1, .int (nI c))] := hl
  refine lv_iload_n hx hb d_P_obey_19 rfl (lv_at hl 2 rfl) ?_
  refine lv_bipush (v := 64) hx hb d_P_obey_20 (by decide) ?_
  refine lv_idiv hx hb d_P_obey_22 (by decide) ?_
  refine sw_tp (y := nI (c / 64)) (pk_div (a := c) (d := 64) (by omega) (by decide) (by decide)) ?_
  rcases (show c / 64 = 0 ∨ c / 64 = 1 ∨ c / 64 = 2 ∨ c / 64 = 3 by omega) with h64 | h64 | h64 | h64
  · skip
    refine sw_tp (y := 0) (niE h64) ?_
    refine lv_tableIn (tgt := 48) (off := 25) hx hb d_P_obey_23 (by decide) (by decide) (by decide) (by decide) ?_
    refine lv_aload_n hx hb d_P_obey_48 rfl (lv_at hl 1 rfl) ?_
    refine lv_iload_n hx hb d_P_obey_49 rfl (lv_at hl 0 rfl) ?_
    refine sw_callVi (rest := []) 4 3 [.int (nI (min ((c % 64) + 1) (Ln - n)))] hx hb hml hown hts hK hN hA hP hD hS (k_P_copy l D cA aX aF aB aL aP st _ (min ((c % 64) + 1) (Ln - n)) n q hn hq (by omega) (by omega)) cw_P_64 rfl rfl rfl ⟨Nat.le_of_ble_eq_true rfl, Nat.le_of_ble_eq_true rfl⟩ hl.1 rfl rfl (Nat.le_of_ble_eq_true rfl) d_P_obey_50 (fun r50 u50 H locs hq50 hP hD hS => ?_)
    obtain ⟨hr50, hu50⟩ := hq50
    rw [hr50]
    refine sw_iret (u := u50) (v := b2i ((ccopy (min ((c % 64) + 1) (Ln - n)) n q st).2)) hx hb hr hlk hK hP hD hS d_P_obey_53 (nb_b2i _) ?_
    rw [show cobey c Ln n q st = _ from if_pos h64]
    exact ⟨rfl, hu50⟩
  · skip
    refine sw_tp (y := 1) (niE h64) ?_
    refine lv_tableIn (tgt := 54) (off := 31) hx hb d_P_obey_23 (by decide) (by decide) (by decide) (by decide) ?_
    refine lv_aload_n hx hb d_P_obey_54 rfl (lv_at hl 1 rfl) ?_
    refine lv_iconst (v := 1) hx hb d_P_obey_55 (by decide) ?_
    refine va_put (D := D) (ci := 3) (v := .int (1 : Int32)) (ty := .int) (C := R_P) (T := T_P) (N := 7) hx hb hts in_P ty_P ty_P_ok nm_P hown hK hP hD hS 4 rfl rfl 5 (by decide) (hts _ wm_57) (fun _ h9 => h9) rfl (ty_P_ok 5 (by decide)) rfl rfl (Nat.le_of_ble_eq_true rfl) d_P_obey_56 (fun H locs hP hD hS => ?_)
    have hP : va_P D vwC (CW cA aX aF aB aL aP ((st.1.1, st.1.2.1, st.1.2.2.1, st.1.2.2.2), (st.2.1.1, st.2.1.2), (st.2.2.1, st.2.2.2.1, st.2.2.2.2.1, st.2.2.2.2.2.1, (1 : Int32), st.2.2.2.2.2.2.2))) H := hP
    have hD : va_D A (CW cA aX aF aB aL aP ((st.1.1, st.1.2.1, st.1.2.2.1, st.1.2.2.2), (st.2.1.1, st.2.1.2), (st.2.2.1, st.2.2.2.1, st.2.2.2.2.1, st.2.2.2.2.2.1, (1 : Int32), st.2.2.2.2.2.2.2))) := hD
    refine lv_iconst (v := 1) hx hb d_P_obey_59 (by decide) ?_
    refine sw_iret (u := ((st.1.1, st.1.2.1, st.1.2.2.1, st.1.2.2.2), (st.2.1.1, st.2.1.2), (st.2.2.1, st.2.2.2.1, st.2.2.2.2.1, st.2.2.2.2.2.1, (1 : Int32), st.2.2.2.2.2.2.2))) (v := (1 : Int32)) hx hb hr hlk hK hP hD hS d_P_obey_60 rfl ?_
    rw [show cobey c Ln n q st = _ from (if_neg (by omega)).trans (if_pos h64)]
    exact ⟨rfl, rfl⟩
  · skip
    refine sw_tp (y := 2) (niE h64) ?_
    refine lv_tableIn (tgt := 61) (off := 38) hx hb d_P_obey_23 (by decide) (by decide) (by decide) (by decide) ?_
    refine lv_aload_n hx hb d_P_obey_61 rfl (lv_at hl 1 rfl) ?_
    refine lv_iconst (v := 2) hx hb d_P_obey_62 (by decide) ?_
    refine va_put (D := D) (ci := 3) (v := .int (2 : Int32)) (ty := .int) (C := R_P) (T := T_P) (N := 7) hx hb hts in_P ty_P ty_P_ok nm_P hown hK hP hD hS 4 rfl rfl 5 (by decide) (hts _ wm_57) (fun _ h9 => h9) rfl (ty_P_ok 5 (by decide)) rfl rfl (Nat.le_of_ble_eq_true rfl) d_P_obey_63 (fun H locs hP hD hS => ?_)
    have hP : va_P D vwC (CW cA aX aF aB aL aP ((st.1.1, st.1.2.1, st.1.2.2.1, st.1.2.2.2), (st.2.1.1, st.2.1.2), (st.2.2.1, st.2.2.2.1, st.2.2.2.2.1, st.2.2.2.2.2.1, (2 : Int32), st.2.2.2.2.2.2.2))) H := hP
    have hD : va_D A (CW cA aX aF aB aL aP ((st.1.1, st.1.2.1, st.1.2.2.1, st.1.2.2.2), (st.2.1.1, st.2.1.2), (st.2.2.1, st.2.2.2.1, st.2.2.2.2.1, st.2.2.2.2.2.1, (2 : Int32), st.2.2.2.2.2.2.2))) := hD
    refine lv_aload_n hx hb d_P_obey_66 rfl (lv_at hl 1 rfl) ?_
    refine lv_iload_n hx hb d_P_obey_67 rfl (lv_at hl 0 rfl) ?_
    refine va_put (D := D) (ci := 3) (v := .int (nI (min ((c % 64) + 1) (Ln - n)))) (ty := .int) (C := R_P) (T := T_P) (N := 7) hx hb hts in_P ty_P ty_P_ok nm_P hown hK hP hD hS 4 rfl rfl 6 (by decide) (hts _ wm_58) (fun _ h9 => h9) rfl (ty_P_ok 6 (by decide)) rfl rfl (Nat.le_of_ble_eq_true rfl) d_P_obey_68 (fun H locs hP hD hS => ?_)
    have hP : va_P D vwC (CW cA aX aF aB aL aP ((st.1.1, st.1.2.1, st.1.2.2.1, st.1.2.2.2), (st.2.1.1, st.2.1.2), (st.2.2.1, st.2.2.2.1, st.2.2.2.2.1, st.2.2.2.2.2.1, (2 : Int32), nI (min ((c % 64) + 1) (Ln - n))))) H := hP
    have hD : va_D A (CW cA aX aF aB aL aP ((st.1.1, st.1.2.1, st.1.2.2.1, st.1.2.2.2), (st.2.1.1, st.2.1.2), (st.2.2.1, st.2.2.2.1, st.2.2.2.2.1, st.2.2.2.2.2.1, (2 : Int32), nI (min ((c % 64) + 1) (Ln - n))))) := hD
    refine lv_iconst (v := 1) hx hb d_P_obey_71 (by decide) ?_
    refine sw_iret (u := ((st.1.1, st.1.2.1, st.1.2.2.1, st.1.2.2.2), (st.2.1.1, st.2.1.2), (st.2.2.1, st.2.2.2.1, st.2.2.2.2.1, st.2.2.2.2.2.1, (2 : Int32), nI (min ((c % 64) + 1) (Ln - n))))) (v := (1 : Int32)) hx hb hr hlk hK hP hD hS d_P_obey_72 rfl ?_
    rw [show cobey c Ln n q st = _ from (if_neg (by omega)).trans ((if_neg (by omega)).trans (if_pos h64))]
    exact ⟨rfl, rfl⟩
  · skip
    refine sw_tp (y := 3) (niE h64) ?_
    refine lv_tableOut (tgt := 73) hx hb d_P_obey_23 (by decide) (by decide) ?_
    refine lv_aload_n hx hb d_P_obey_73 rfl (lv_at hl 1 rfl) ?_
    refine lv_iconst (v := 3) hx hb d_P_obey_74 (by decide) ?_
    refine va_put (D := D) (ci := 3) (v := .int (3 : Int32)) (ty := .int) (C := R_P) (T := T_P) (N := 7) hx hb hts in_P ty_P ty_P_ok nm_P hown hK hP hD hS 4 rfl rfl 5 (by decide) (hts _ wm_57) (fun _ h9 => h9) rfl (ty_P_ok 5 (by decide)) rfl rfl (Nat.le_of_ble_eq_true rfl) d_P_obey_75 (fun H locs hP hD hS => ?_)
    have hP : va_P D vwC (CW cA aX aF aB aL aP ((st.1.1, st.1.2.1, st.1.2.2.1, st.1.2.2.2), (st.2.1.1, st.2.1.2), (st.2.2.1, st.2.2.2.1, st.2.2.2.2.1, st.2.2.2.2.2.1, (3 : Int32), st.2.2.2.2.2.2.2))) H := hP
    have hD : va_D A (CW cA aX aF aB aL aP ((st.1.1, st.1.2.1, st.1.2.2.1, st.1.2.2.2), (st.2.1.1, st.2.1.2), (st.2.2.1, st.2.2.2.1, st.2.2.2.2.1, st.2.2.2.2.2.1, (3 : Int32), st.2.2.2.2.2.2.2))) := hD
    refine lv_aload_n hx hb d_P_obey_78 rfl (lv_at hl 1 rfl) ?_
    refine lv_iload_n hx hb d_P_obey_79 rfl (lv_at hl 0 rfl) ?_
    refine va_put (D := D) (ci := 3) (v := .int (nI (min ((c % 64) + 1) (Ln - n)))) (ty := .int) (C := R_P) (T := T_P) (N := 7) hx hb hts in_P ty_P ty_P_ok nm_P hown hK hP hD hS 4 rfl rfl 6 (by decide) (hts _ wm_58) (fun _ h9 => h9) rfl (ty_P_ok 6 (by decide)) rfl rfl (Nat.le_of_ble_eq_true rfl) d_P_obey_80 (fun H locs hP hD hS => ?_)
    have hP : va_P D vwC (CW cA aX aF aB aL aP ((st.1.1, st.1.2.1, st.1.2.2.1, st.1.2.2.2), (st.2.1.1, st.2.1.2), (st.2.2.1, st.2.2.2.1, st.2.2.2.2.1, st.2.2.2.2.2.1, (3 : Int32), nI (min ((c % 64) + 1) (Ln - n))))) H := hP
    have hD : va_D A (CW cA aX aF aB aL aP ((st.1.1, st.1.2.1, st.1.2.2.1, st.1.2.2.2), (st.2.1.1, st.2.1.2), (st.2.2.1, st.2.2.2.1, st.2.2.2.2.1, st.2.2.2.2.2.1, (3 : Int32), nI (min ((c % 64) + 1) (Ln - n))))) := hD
    refine lv_iconst (v := 1) hx hb d_P_obey_83 (by decide) ?_
    refine sw_iret (u := ((st.1.1, st.1.2.1, st.1.2.2.1, st.1.2.2.2), (st.2.1.1, st.2.1.2), (st.2.2.1, st.2.2.2.1, st.2.2.2.2.1, st.2.2.2.2.2.1, (3 : Int32), nI (min ((c % 64) + 1) (Ln - n))))) (v := (1 : Int32)) hx hb hr hlk hK hP hD hS d_P_obey_84 rfl ?_
    rw [show cobey c Ln n q st = _ from (if_neg (by omega)).trans ((if_neg (by omega)).trans (if_neg (by omega)))]
    exact ⟨rfl, rfl⟩
set_option maxHeartbeats 4000000 in
set_option maxRecDepth 100000 in
theorem k_P_take (l : Launch) (D : va_G) (cA : ClassId) (aX aF aB aL aP : Nat) (st : St) (sz : Nat) (c Ln n q : Nat) (hc : c < 256) (hL : st.2.2.2.1 = nI Ln) (hn : st.2.2.2.2.1 = nI n) (hq : st.2.2.2.2.2.1 = nI q) (h1 : n < Ln) (h2 : Ln ≤ 96) (hq2 : q < 2 ^ 29) : Ci l y_P_take b_P_take 2 (some .boolean) 5 D cA (CW cA aX aF aB aL aP) st sz [.ref aP, .int (nI c)] (fun r u => r = b2i ((ctk c Ln n q st).2) ∧ u = (ctk c Ln n q st).1) := by
  refine Ci.enter (by decide) (Nat.le_of_ble_eq_true rfl) ?_
  intro pr en s0 m0 ar bl me co A ls hx hb hml hr hlk hown hts hK hN hA hP hD hS hl
  have hl : lv_has ls 2 [(0, .ref aP), (1, .int (nI c))] := hl
  have hown : s0.vm.findClass R_P = some m0.cls := hown
  refine lv_aload_n hx hb d_P_take_0 rfl (lv_at hl 0 rfl) ?_
  refine va_get (D := D) (ci := 3) (v := .int st.2.2.2.2.2.2.1) (C := R_P) (T := T_P) (N := 7) hx hb hts in_P hown hK hP 4 rfl rfl 5 (by decide) (hts _ wm_57) (fun _ h9 => h9) rfl d_P_take_1 ?_
  rcases aw_split st.2.2.2.2.2.2.1 with h0 | h0 | h0 | h0
  · skip
    refine sw_tp (y := 1) h0 ?_
    refine lv_tableIn (tgt := 32) (off := 28) hx hb d_P_take_4 (by decide) (by decide) (by decide) (by decide) ?_
    refine lv_aload_n hx hb d_P_take_32 rfl (lv_at hl 0 rfl) ?_
    refine lv_iload_n hx hb d_P_take_33 rfl (lv_at hl 1 rfl) ?_
    refine va_put (D := D) (ci := 3) (v := .int (nI c)) (ty := .int) (C := R_P) (T := T_P) (N := 7) hx hb hts in_P ty_P ty_P_ok nm_P hown hK hP hD hS 4 rfl rfl 4 (by decide) (hts _ wm_56) (fun _ h9 => h9) rfl (ty_P_ok 4 (by decide)) rfl rfl (Nat.le_of_ble_eq_true rfl) d_P_take_34 (fun H locs hP hD hS => ?_)
    have hP : va_P D vwC (CW cA aX aF aB aL aP ((st.1.1, st.1.2.1, st.1.2.2.1, st.1.2.2.2), (st.2.1.1, st.2.1.2), (st.2.2.1, st.2.2.2.1, st.2.2.2.2.1, nI c, st.2.2.2.2.2.2.1, st.2.2.2.2.2.2.2))) H := hP
    have hD : va_D A (CW cA aX aF aB aL aP ((st.1.1, st.1.2.1, st.1.2.2.1, st.1.2.2.2), (st.2.1.1, st.2.1.2), (st.2.2.1, st.2.2.2.1, st.2.2.2.2.1, nI c, st.2.2.2.2.2.2.1, st.2.2.2.2.2.2.2))) := hD
    refine lv_aload_n hx hb d_P_take_37 rfl (lv_at hl 0 rfl) ?_
    refine lv_iconst (v := 0) hx hb d_P_take_38 (by decide) ?_
    refine va_put (D := D) (ci := 3) (v := .int (0 : Int32)) (ty := .int) (C := R_P) (T := T_P) (N := 7) hx hb hts in_P ty_P ty_P_ok nm_P hown hK hP hD hS 4 rfl rfl 5 (by decide) (hts _ wm_57) (fun _ h9 => h9) rfl (ty_P_ok 5 (by decide)) rfl rfl (Nat.le_of_ble_eq_true rfl) d_P_take_39 (fun H locs hP hD hS => ?_)
    have hP : va_P D vwC (CW cA aX aF aB aL aP ((st.1.1, st.1.2.1, st.1.2.2.1, st.1.2.2.2), (st.2.1.1, st.2.1.2), (st.2.2.1, st.2.2.2.1, st.2.2.2.2.1, nI c, (0 : Int32), st.2.2.2.2.2.2.2))) H := hP
    have hD : va_D A (CW cA aX aF aB aL aP ((st.1.1, st.1.2.1, st.1.2.2.1, st.1.2.2.2), (st.2.1.1, st.2.1.2), (st.2.2.1, st.2.2.2.1, st.2.2.2.2.1, nI c, (0 : Int32), st.2.2.2.2.2.2.2))) := hD
    refine lv_iconst (v := 1) hx hb d_P_take_42 (by decide) ?_
    refine sw_iret (u := ((st.1.1, st.1.2.1, st.1.2.2.1, st.1.2.2.2), (st.2.1.1, st.2.1.2), (st.2.2.1, st.2.2.2.1, st.2.2.2.2.1, nI c, (0 : Int32), st.2.2.2.2.2.2.2))) (v := (1 : Int32)) hx hb hr hlk hK hP hD hS d_P_take_43 rfl ?_
    rw [show ctk c Ln n q st = _ from if_pos h0]
    exact ⟨rfl, rfl⟩
  · skip
    refine sw_tp (y := 2) h0 ?_
    refine lv_tableIn (tgt := 44) (off := 40) hx hb d_P_take_4 (by decide) (by decide) (by decide) (by decide) ?_
    refine lv_aload_n hx hb d_P_take_44 rfl (lv_at hl 0 rfl) ?_
    refine sw_callVv (rest := []) 4 3 [] hx hb hml hown hts hK hN hA hP hD hS (k_P_countFed l D cA aX aF aB aL aP st _) cw_P_34 rfl rfl rfl ⟨Nat.le_of_ble_eq_true rfl, Nat.le_of_ble_eq_true rfl⟩ hl.1 rfl rfl (Nat.le_of_ble_eq_true rfl) d_P_take_45 (fun u45 H locs hq45 hP hD hS => ?_)
    have hu45 : u45 = ccnt st := hq45
    refine lv_aload_n hx hb d_P_take_48 rfl (lv_at hl 0 rfl) ?_
    refine lv_iload_n hx hb d_P_take_49 rfl (lv_at hl 1 rfl) ?_
    refine sw_callVi (rest := []) 4 3 [.int (nI c)] hx hb hml hown hts hK hN hA hP hD hS (k_P_make l D cA aX aF aB aL aP u45 _ n (nI c) (by rw [hu45]; exact hn) (by omega)) cw_P_37 rfl rfl rfl ⟨Nat.le_of_ble_eq_true rfl, Nat.le_of_ble_eq_true rfl⟩ hl.1 rfl rfl (Nat.le_of_ble_eq_true rfl) d_P_take_50 (fun r50 u50 H locs hq50 hP hD hS => ?_)
    obtain ⟨hr50, hu50⟩ := hq50
    rw [hr50]
    refine sw_iret (u := u50) (v := b2i ((cmake n (nI c) u45).2)) hx hb hr hlk hK hP hD hS d_P_take_53 (nb_b2i _) ?_
    rw [show ctk c Ln n q st = _ from (if_neg (by rw [h0]; decide)).trans (if_pos h0)]
    subst hu45
    exact ⟨rfl, hu50⟩
  · skip
    refine sw_tp (y := 3) h0 ?_
    refine lv_tableIn (tgt := 54) (off := 50) hx hb d_P_take_4 (by decide) (by decide) (by decide) (by decide) ?_
    refine lv_aload_n hx hb d_P_take_54 rfl (lv_at hl 0 rfl) ?_
    refine sw_callVv (rest := []) 4 3 [] hx hb hml hown hts hK hN hA hP hD hS (k_P_countFed l D cA aX aF aB aL aP st _) cw_P_34 rfl rfl rfl ⟨Nat.le_of_ble_eq_true rfl, Nat.le_of_ble_eq_true rfl⟩ hl.1 rfl rfl (Nat.le_of_ble_eq_true rfl) d_P_take_55 (fun u55 H locs hq55 hP hD hS => ?_)
    have hu55 : u55 = ccnt st := hq55
    refine lv_aload_n hx hb d_P_take_58 rfl (lv_at hl 0 rfl) ?_
    refine lv_iload_n hx hb d_P_take_59 rfl (lv_at hl 1 rfl) ?_
    refine lv_aload_n hx hb d_P_take_60 rfl (lv_at hl 0 rfl) ?_
    refine sw_callVi (rest := [.int (nI c), .ref aP]) 4 3 [] hx hb hml hown hts hK hN hA hP hD hS (k_P_takeFromMain l D cA aX aF aB aL aP u55 _ q (by rw [hu55]; exact hq) (by omega)) cw_P_41 rfl rfl rfl ⟨Nat.le_of_ble_eq_true rfl, Nat.le_of_ble_eq_true rfl⟩ hl.1 rfl rfl (Nat.le_of_ble_eq_true rfl) d_P_take_61 (fun r61 u61 H locs hq61 hP hD hS => ?_)
    obtain ⟨hr61, hu61⟩ := hq61
    rw [hr61]
    refine lv_iadd hx hb d_P_take_64 ?_
    refine lv_sipush (v := 255) hx hb d_P_take_65 (by decide) ?_
    refine lv_iand hx hb d_P_take_68 ?_
    refine sw_callVi (rest := []) 4 3 [.int (((nI c) + (cmb u55.1.1 q)) &&& (255 : Int32))] hx hb hml hown hts hK hN hA hP hD hS (k_P_make l D cA aX aF aB aL aP u61 _ n (((nI c) + (cmb u55.1.1 q)) &&& (255 : Int32)) (by rw [hu61, hu55]; exact hn) (by omega)) cw_P_37 rfl rfl rfl ⟨Nat.le_of_ble_eq_true rfl, Nat.le_of_ble_eq_true rfl⟩ hl.1 rfl rfl (Nat.le_of_ble_eq_true rfl) d_P_take_69 (fun r69 u69 H locs hq69 hP hD hS => ?_)
    obtain ⟨hr69, hu69⟩ := hq69
    rw [hr69]
    refine sw_iret (u := u69) (v := b2i ((cmake n (((nI c) + (cmb u55.1.1 q)) &&& (255 : Int32)) u61).2)) hx hb hr hlk hK hP hD hS d_P_take_72 (nb_b2i _) ?_
    rw [show ctk c Ln n q st = _ from (if_neg (by rw [h0]; decide)).trans ((if_neg (by rw [h0]; decide)).trans (if_pos h0))]
    subst hu61
    subst hu55
    exact ⟨rfl, hu69⟩
  · skip
    refine lv_tableOut (tgt := 73) hx hb d_P_take_4 (aw_out h0) (by decide) ?_
    refine lv_aload_n hx hb d_P_take_73 rfl (lv_at hl 0 rfl) ?_
    refine lv_iload_n hx hb d_P_take_74 rfl (lv_at hl 1 rfl) ?_
    refine sw_callVi (rest := []) 4 3 [.int (nI c)] hx hb hml hown hts hK hN hA hP hD hS (k_P_obey l D cA aX aF aB aL aP st _ c Ln n q (by omega) hL hn hq (by omega) (by omega) (by omega)) cw_P_45 rfl rfl rfl ⟨Nat.le_of_ble_eq_true rfl, Nat.le_of_ble_eq_true rfl⟩ hl.1 rfl rfl (Nat.le_of_ble_eq_true rfl) d_P_take_75 (fun r75 u75 H locs hq75 hP hD hS => ?_)
    obtain ⟨hr75, hu75⟩ := hq75
    rw [hr75]
    refine sw_iret (u := u75) (v := b2i ((cobey c Ln n q st).2)) hx hb hr hlk hK hP hD hS d_P_take_78 (nb_b2i _) ?_
    rw [show ctk c Ln n q st = _ from (if_neg h0.1).trans ((if_neg h0.2.1).trans (if_neg h0.2.2))]
    exact ⟨rfl, hu75⟩
set_option maxHeartbeats 4000000 in
set_option maxRecDepth 100000 in
theorem k_P_seal (l : Launch) (D : va_G) (cA : ClassId) (aX aF aB aL aP : Nat) (st : St) (sz : Nat) (Ln : Nat) (hL : st.2.2.2.1 = nI Ln) (h4 : 4 ≤ Ln) (h96 : Ln ≤ 96) : Ci l y_P_seal b_P_seal 2 (some .boolean) 2 D cA (CW cA aX aF aB aL aP) st sz [.ref aP] (fun r u => r = b2i (!(pseal st.2.2.1 Ln (st.1, false)).2) ∧ u = ((pseal st.2.2.1 Ln (st.1, false)).1, st.2)) := by
  refine Ci.enter (by decide) (Nat.le_of_ble_eq_true rfl) ?_
  intro pr en s0 m0 ar bl me co A ls hx hb hml hr hlk hown hts hK hN hA hP hD hS hl
  have hl : lv_has ls 2 [(0, .ref aP)] := hl
  have hown : s0.vm.findClass R_P = some m0.cls := hown
  refine lv_aload_n hx hb d_P_seal_0 rfl (lv_at hl 0 rfl) ?_
  refine va_get (D := D) (ci := 3) (v := .ref aF) (C := R_P) (T := T_P) (N := 7) hx hb hts in_P hown hK hP 4 rfl rfl 0 (by decide) (hts _ wm_52) (fun _ h9 => h9) rfl d_P_seal_1 ?_
  refine lv_bipush (v := 96) hx hb d_P_seal_4 (by decide) ?_
  refine lv_aload_n hx hb d_P_seal_6 rfl (lv_at hl 0 rfl) ?_
  refine va_get (D := D) (ci := 3) (v := .int st.2.2.1) (C := R_P) (T := T_P) (N := 7) hx hb hts in_P hown hK hP 4 rfl rfl 1 (by decide) (hts _ wm_53) (fun _ h9 => h9) rfl d_P_seal_7 ?_
  refine lv_aload_n hx hb d_P_seal_10 rfl (lv_at hl 0 rfl) ?_
  refine va_get (D := D) (ci := 3) (v := .int st.2.2.2.1) (C := R_P) (T := T_P) (N := 7) hx hb hts in_P hown hK hP 4 rfl rfl 2 (by decide) (hts _ wm_54) (fun _ h9 => h9) rfl d_P_seal_11 ?_
  refine sw_tp (y := nI Ln) hL ?_
  refine sw_callVi (rest := []) 1 1 [.int (nI 96), .int st.2.2.1, .int (nI Ln)] hx hb hml hown hts hK hN hA hP hD hS (k_F_sumOf l D cA aX aF aB aL aP st _ 96 st.2.2.1 Ln (by omega) (by omega)) cw_P_48 rfl rfl rfl ⟨Nat.le_of_ble_eq_true rfl, Nat.le_of_ble_eq_true rfl⟩ hl.1 rfl rfl (Nat.le_of_ble_eq_true rfl) d_P_seal_14 (fun r14 u14 H locs hq14 hP hD hS => ?_)
  obtain ⟨hr14, hq14⟩ := hq14
  rw [hr14]
  rw [hq14] at hP hD
  refine lv_istore_n hx hb d_P_seal_17 rfl hl (by decide) rfl (fun ls hl => ?_)
  have hl : lv_has ls 2 [(1, .int (psum st.1.1 96 st.2.2.1 Ln)), (0, .ref aP)] := hl
  refine lv_aload_n hx hb d_P_seal_18 rfl (lv_at hl 1 rfl) ?_
  refine va_get (D := D) (ci := 3) (v := .ref aF) (C := R_P) (T := T_P) (N := 7) hx hb hts in_P hown hK hP 4 rfl rfl 0 (by decide) (hts _ wm_52) (fun _ h9 => h9) rfl d_P_seal_19 ?_
  refine lv_bipush (v := 99) hx hb d_P_seal_22 (by decide) ?_
  refine lv_iload_n hx hb d_P_seal_24 rfl (lv_at hl 0 rfl) ?_
  refine sw_callVi (rest := []) 1 1 [.int (nI 99), .int (psum st.1.1 96 st.2.2.1 Ln)] hx hb hml hown hts hK hN hA hP hD hS (k_F_writeByte l D cA aX aF aB aL aP st _ 99 (psum st.1.1 96 st.2.2.1 Ln) (by omega)) cw_P_54 rfl rfl rfl ⟨Nat.le_of_ble_eq_true rfl, Nat.le_of_ble_eq_true rfl⟩ hl.1 rfl rfl (Nat.le_of_ble_eq_true rfl) d_P_seal_25 (fun r25 u25 H locs hq25 hP hD hS => ?_)
  obtain ⟨hr25, hu25⟩ := hq25
  rw [hr25]
  refine sw_bz_eq (tgt := 82) hx hb d_P_seal_28 (by decide) (fun h28 => ?_) (fun h28 => ?_)
  · skip
    refine lv_iconst (v := 0) hx hb d_P_seal_82 (by decide) ?_
    refine sw_iret (u := u25) (v := (0 : Int32)) hx hb hr hlk hK hP hD hS d_P_seal_83 rfl ?_
    have hw := mz_no h28
    have hz : pseal st.2.2.1 Ln (st.1, false) = pwrite 96 165 (pwrite 97 st.2.2.1 (pwrite 98 (nI Ln) (pwrite 99 (psum st.1.1 96 st.2.2.1 Ln) (st.1, false)))) := rfl
    rw [pwrite_went (a := 98) hw, pwrite_went (a := 97) hw, pwrite_went (a := 96) hw] at hz
    rw [hz, hw]
    exact ⟨rfl, hu25⟩
  · skip
    refine lv_aload_n hx hb d_P_seal_31 rfl (lv_at hl 1 rfl) ?_
    refine va_get (D := D) (ci := 3) (v := .ref aF) (C := R_P) (T := T_P) (N := 7) hx hb hts in_P hown hK hP 4 rfl rfl 0 (by decide) (hts _ wm_52) (fun _ h9 => h9) rfl d_P_seal_32 ?_
    refine lv_bipush (v := 98) hx hb d_P_seal_35 (by decide) ?_
    refine lv_aload_n hx hb d_P_seal_37 rfl (lv_at hl 1 rfl) ?_
    refine va_get (D := D) (ci := 3) (v := .int u25.2.2.2.1) (C := R_P) (T := T_P) (N := 7) hx hb hts in_P hown hK hP 4 rfl rfl 2 (by decide) (hts _ wm_54) (fun _ h9 => h9) rfl d_P_seal_38 ?_
    refine sw_tp (y := (nI Ln)) (by rw [hu25]; exact hL) ?_
    refine sw_callVi (rest := []) 1 1 [.int (nI 98), .int (nI Ln)] hx hb hml hown hts hK hN hA hP hD hS (k_F_writeByte l D cA aX aF aB aL aP u25 _ 98 (nI Ln) (by omega)) cw_P_54 rfl rfl rfl ⟨Nat.le_of_ble_eq_true rfl, Nat.le_of_ble_eq_true rfl⟩ hl.1 rfl rfl (Nat.le_of_ble_eq_true rfl) d_P_seal_41 (fun r41 u41 H locs hq41 hP hD hS => ?_)
    obtain ⟨hr41, hu41⟩ := hq41
    rw [hr41]
    refine sw_bz_eq (tgt := 82) hx hb d_P_seal_44 (by decide) (fun h44 => ?_) (fun h44 => ?_)
    · skip
      refine lv_iconst (v := 0) hx hb d_P_seal_82 (by decide) ?_
      refine sw_iret (u := u41) (v := (0 : Int32)) hx hb hr hlk hK hP hD hS d_P_seal_83 rfl ?_
      have e25 : (u25.1, false) = pwrite 99 (psum st.1.1 96 st.2.2.1 Ln) (st.1, false) := by rw [hu25]; exact mz_eq (mz_ok h28)
      have hw := mz_no h44
      have hz : pseal st.2.2.1 Ln (st.1, false) = pwrite 96 165 (pwrite 97 st.2.2.1 (pwrite 98 (nI Ln) (pwrite 99 (psum st.1.1 96 st.2.2.1 Ln) (st.1, false)))) := rfl
      rw [← e25, pwrite_went (a := 97) hw, pwrite_went hw] at hz
      rw [hz, hw, hu41, show u25.2 = st.2 by rw [hu25]]
      exact ⟨rfl, rfl⟩
    · skip
      refine lv_aload_n hx hb d_P_seal_47 rfl (lv_at hl 1 rfl) ?_
      refine va_get (D := D) (ci := 3) (v := .ref aF) (C := R_P) (T := T_P) (N := 7) hx hb hts in_P hown hK hP 4 rfl rfl 0 (by decide) (hts _ wm_52) (fun _ h9 => h9) rfl d_P_seal_48 ?_
      refine lv_bipush (v := 97) hx hb d_P_seal_51 (by decide) ?_
      refine lv_aload_n hx hb d_P_seal_53 rfl (lv_at hl 1 rfl) ?_
      refine va_get (D := D) (ci := 3) (v := .int u41.2.2.1) (C := R_P) (T := T_P) (N := 7) hx hb hts in_P hown hK hP 4 rfl rfl 1 (by decide) (hts _ wm_53) (fun _ h9 => h9) rfl d_P_seal_54 ?_
      refine sw_tp (y := st.2.2.1) (by rw [hu41, hu25]) ?_
      refine sw_callVi (rest := []) 1 1 [.int (nI 97), .int st.2.2.1] hx hb hml hown hts hK hN hA hP hD hS (k_F_writeByte l D cA aX aF aB aL aP u41 _ 97 st.2.2.1 (by omega)) cw_P_54 rfl rfl rfl ⟨Nat.le_of_ble_eq_true rfl, Nat.le_of_ble_eq_true rfl⟩ hl.1 rfl rfl (Nat.le_of_ble_eq_true rfl) d_P_seal_57 (fun r57 u57 H locs hq57 hP hD hS => ?_)
      obtain ⟨hr57, hu57⟩ := hq57
      rw [hr57]
      refine sw_bz_eq (tgt := 82) hx hb d_P_seal_60 (by decide) (fun h60 => ?_) (fun h60 => ?_)
      · skip
        refine lv_iconst (v := 0) hx hb d_P_seal_82 (by decide) ?_
        refine sw_iret (u := u57) (v := (0 : Int32)) hx hb hr hlk hK hP hD hS d_P_seal_83 rfl ?_
        have e25 : (u25.1, false) = pwrite 99 (psum st.1.1 96 st.2.2.1 Ln) (st.1, false) := by rw [hu25]; exact mz_eq (mz_ok h28)
        have e41 : (u41.1, false) = pwrite 98 (nI Ln) (u25.1, false) := by rw [hu41]; exact mz_eq (mz_ok h44)
        have hw := mz_no h60
        have hz : pseal st.2.2.1 Ln (st.1, false) = pwrite 96 165 (pwrite 97 st.2.2.1 (pwrite 98 (nI Ln) (pwrite 99 (psum st.1.1 96 st.2.2.1 Ln) (st.1, false)))) := rfl
        rw [← e25, ← e41, pwrite_went hw] at hz
        rw [hz, hw, hu57, show u41.2 = st.2 by rw [hu41, hu25]]
        exact ⟨rfl, rfl⟩
      · skip
        refine lv_aload_n hx hb d_P_seal_63 rfl (lv_at hl 1 rfl) ?_
        refine va_get (D := D) (ci := 3) (v := .ref aF) (C := R_P) (T := T_P) (N := 7) hx hb hts in_P hown hK hP 4 rfl rfl 0 (by decide) (hts _ wm_52) (fun _ h9 => h9) rfl d_P_seal_64 ?_
        refine lv_bipush (v := 96) hx hb d_P_seal_67 (by decide) ?_
        refine lv_sipush (v := 165) hx hb d_P_seal_69 (by decide) ?_
        refine sw_callVi (rest := []) 1 1 [.int (nI 96), .int (165 : Int32)] hx hb hml hown hts hK hN hA hP hD hS (k_F_writeByte l D cA aX aF aB aL aP u57 _ 96 (165 : Int32) (by omega)) cw_P_54 rfl rfl rfl ⟨Nat.le_of_ble_eq_true rfl, Nat.le_of_ble_eq_true rfl⟩ hl.1 rfl rfl (Nat.le_of_ble_eq_true rfl) d_P_seal_72 (fun r72 u72 H locs hq72 hP hD hS => ?_)
        obtain ⟨hr72, hu72⟩ := hq72
        rw [hr72]
        refine sw_bz_eq (tgt := 82) hx hb d_P_seal_75 (by decide) (fun h75 => ?_) (fun h75 => ?_)
        · skip
          refine lv_iconst (v := 0) hx hb d_P_seal_82 (by decide) ?_
          refine sw_iret (u := u72) (v := (0 : Int32)) hx hb hr hlk hK hP hD hS d_P_seal_83 rfl ?_
          have e25 : (u25.1, false) = pwrite 99 (psum st.1.1 96 st.2.2.1 Ln) (st.1, false) := by rw [hu25]; exact mz_eq (mz_ok h28)
          have e41 : (u41.1, false) = pwrite 98 (nI Ln) (u25.1, false) := by rw [hu41]; exact mz_eq (mz_ok h44)
          have e57 : (u57.1, false) = pwrite 97 st.2.2.1 (u41.1, false) := by rw [hu57]; exact mz_eq (mz_ok h60)
          have hz : pseal st.2.2.1 Ln (st.1, false) = pwrite 96 165 (pwrite 97 st.2.2.1 (pwrite 98 (nI Ln) (pwrite 99 (psum st.1.1 96 st.2.2.1 Ln) (st.1, false)))) := rfl
          rw [← e25, ← e41, ← e57] at hz
          rw [hz, mz_no h75, hu72, show u57.2 = st.2 by rw [hu57, hu41, hu25]]
          exact ⟨rfl, rfl⟩
        · skip
          refine lv_iconst (v := 1) hx hb d_P_seal_78 (by decide) ?_
          refine lv_goto (tgt := 83) hx hb d_P_seal_79 (by decide) ?_
          refine sw_iret (u := u72) (v := (1 : Int32)) hx hb hr hlk hK hP hD hS d_P_seal_83 rfl ?_
          have e25 : (u25.1, false) = pwrite 99 (psum st.1.1 96 st.2.2.1 Ln) (st.1, false) := by rw [hu25]; exact mz_eq (mz_ok h28)
          have e41 : (u41.1, false) = pwrite 98 (nI Ln) (u25.1, false) := by rw [hu41]; exact mz_eq (mz_ok h44)
          have e57 : (u57.1, false) = pwrite 97 st.2.2.1 (u41.1, false) := by rw [hu57]; exact mz_eq (mz_ok h60)
          have hz : pseal st.2.2.1 Ln (st.1, false) = pwrite 96 165 (pwrite 97 st.2.2.1 (pwrite 98 (nI Ln) (pwrite 99 (psum st.1.1 96 st.2.2.1 Ln) (st.1, false)))) := rfl
          rw [← e25, ← e41, ← e57] at hz
          rw [hz, mz_ok h75, hu72, show u57.2 = st.2 by rw [hu57, hu41, hu25]]
          exact ⟨rfl, rfl⟩
