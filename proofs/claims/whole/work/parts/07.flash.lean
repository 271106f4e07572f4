/-! 07.flash: by program (wip/whole/src/gen.py) out of the bytecode and the specs. -/
theorem d_X_isImageSize_0 : decode b_X_isImageSize 0 = .ok (.iload_n 0, 1) := by decide +kernel
theorem d_X_isImageSize_1 : decode b_X_isImageSize 1 = .ok (.iconst 1, 1) := by decide +kernel
theorem d_X_isImageSize_2 : decode b_X_isImageSize 2 = .ok (.if_icmp .lt 26, 3) := by decide +kernel
theorem d_X_isImageSize_5 : decode b_X_isImageSize 5 = .ok (.iload_n 0, 1) := by decide +kernel
theorem d_X_isImageSize_6 : decode b_X_isImageSize 6 = .ok (.sipush 250, 3) := by decide +kernel
theorem d_X_isImageSize_9 : decode b_X_isImageSize 9 = .ok (.if_icmp .gt 19, 3) := by decide +kernel
theorem d_X_isImageSize_12 : decode b_X_isImageSize 12 = .ok (.iload_n 1, 1) := by decide +kernel
theorem d_X_isImageSize_13 : decode b_X_isImageSize 13 = .ok (.bipush 8, 2) := by decide +kernel
theorem d_X_isImageSize_15 : decode b_X_isImageSize 15 = .ok (.if_icmp .lt 13, 3) := by decide +kernel
theorem d_X_isImageSize_18 : decode b_X_isImageSize 18 = .ok (.iload_n 1, 1) := by decide +kernel
theorem d_X_isImageSize_19 : decode b_X_isImageSize 19 = .ok (.bipush 96, 2) := by decide +kernel
theorem d_X_isImageSize_21 : decode b_X_isImageSize 21 = .ok (.if_icmp .gt 7, 3) := by decide +kernel
theorem d_X_isImageSize_24 : decode b_X_isImageSize 24 = .ok (.iconst 1, 1) := by decide +kernel
theorem d_X_isImageSize_25 : decode b_X_isImageSize 25 = .ok (.goto 4, 3) := by decide +kernel
theorem d_X_isImageSize_28 : decode b_X_isImageSize 28 = .ok (.iconst 0, 1) := by decide +kernel
theorem d_X_isImageSize_29 : decode b_X_isImageSize 29 = .ok (.ireturn, 1) := by decide +kernel
theorem d_F_spendOperation_0 : decode b_F_spendOperation 0 = .ok (.aload_n 0, 1) := by decide +kernel
theorem d_F_spendOperation_1 : decode b_F_spendOperation 1 = .ok (.getfield 21, 3) := by decide +kernel
theorem d_F_spendOperation_4 : decode b_F_spendOperation 4 = .ok (.ifCond .ne 10, 3) := by decide +kernel
theorem d_F_spendOperation_7 : decode b_F_spendOperation 7 = .ok (.aload_n 0, 1) := by decide +kernel
theorem d_F_spendOperation_8 : decode b_F_spendOperation 8 = .ok (.iconst (-1), 1) := by decide +kernel
theorem d_F_spendOperation_9 : decode b_F_spendOperation 9 = .ok (.putfield 21, 3) := by decide +kernel
theorem d_F_spendOperation_12 : decode b_F_spendOperation 12 = .ok (.iconst 0, 1) := by decide +kernel
theorem d_F_spendOperation_13 : decode b_F_spendOperation 13 = .ok (.ireturn, 1) := by decide +kernel
theorem d_F_spendOperation_14 : decode b_F_spendOperation 14 = .ok (.aload_n 0, 1) := by decide +kernel
theorem d_F_spendOperation_15 : decode b_F_spendOperation 15 = .ok (.getfield 21, 3) := by decide +kernel
theorem d_F_spendOperation_18 : decode b_F_spendOperation 18 = .ok (.ifCond .le 13, 3) := by decide +kernel
theorem d_F_spendOperation_21 : decode b_F_spendOperation 21 = .ok (.aload_n 0, 1) := by decide +kernel
theorem d_F_spendOperation_22 : decode b_F_spendOperation 22 = .ok (.dup, 1) := by decide +kernel
theorem d_F_spendOperation_23 : decode b_F_spendOperation 23 = .ok (.getfield 21, 3) := by decide +kernel
theorem d_F_spendOperation_26 : decode b_F_spendOperation 26 = .ok (.iconst 1, 1) := by decide +kernel
theorem d_F_spendOperation_27 : decode b_F_spendOperation 27 = .ok (.isub, 1) := by decide +kernel
theorem d_F_spendOperation_28 : decode b_F_spendOperation 28 = .ok (.putfield 21, 3) := by decide +kernel
theorem d_F_spendOperation_31 : decode b_F_spendOperation 31 = .ok (.aload_n 0, 1) := by decide +kernel
theorem d_F_spendOperation_32 : decode b_F_spendOperation 32 = .ok (.dup, 1) := by decide +kernel
theorem d_F_spendOperation_33 : decode b_F_spendOperation 33 = .ok (.getfield 25, 3) := by decide +kernel
theorem d_F_spendOperation_36 : decode b_F_spendOperation 36 = .ok (.iconst 1, 1) := by decide +kernel
theorem d_F_spendOperation_37 : decode b_F_spendOperation 37 = .ok (.iadd, 1) := by decide +kernel
theorem d_F_spendOperation_38 : decode b_F_spendOperation 38 = .ok (.putfield 25, 3) := by decide +kernel
theorem d_F_spendOperation_41 : decode b_F_spendOperation 41 = .ok (.iconst 1, 1) := by decide +kernel
theorem d_F_spendOperation_42 : decode b_F_spendOperation 42 = .ok (.ireturn, 1) := by decide +kernel
theorem d_F_read_0 : decode b_F_read 0 = .ok (.aload_n 0, 1) := by decide +kernel
theorem d_F_read_1 : decode b_F_read 1 = .ok (.getfield 9, 3) := by decide +kernel
theorem d_F_read_4 : decode b_F_read 4 = .ok (.iload_n 1, 1) := by decide +kernel
theorem d_F_read_5 : decode b_F_read 5 = .ok (.iaload, 1) := by decide +kernel
theorem d_F_read_6 : decode b_F_read 6 = .ok (.ireturn, 1) := by decide +kernel
theorem d_F_setCut_0 : decode b_F_setCut 0 = .ok (.aload_n 0, 1) := by decide +kernel
theorem d_F_setCut_1 : decode b_F_setCut 1 = .ok (.iload_n 1, 1) := by decide +kernel
theorem d_F_setCut_2 : decode b_F_setCut 2 = .ok (.putfield 21, 3) := by decide +kernel
theorem d_F_setCut_5 : decode b_F_setCut 5 = .ok (.return_, 1) := by decide +kernel
theorem d_F_clearCut_0 : decode b_F_clearCut 0 = .ok (.aload_n 0, 1) := by decide +kernel
theorem d_F_clearCut_1 : decode b_F_clearCut 1 = .ok (.iconst (-1), 1) := by decide +kernel
theorem d_F_clearCut_2 : decode b_F_clearCut 2 = .ok (.putfield 21, 3) := by decide +kernel
theorem d_F_clearCut_5 : decode b_F_clearCut 5 = .ok (.return_, 1) := by decide +kernel
theorem d_F_cutLeft_0 : decode b_F_cutLeft 0 = .ok (.aload_n 0, 1) := by decide +kernel
theorem d_F_cutLeft_1 : decode b_F_cutLeft 1 = .ok (.getfield 21, 3) := by decide +kernel
theorem d_F_cutLeft_4 : decode b_F_cutLeft 4 = .ok (.ireturn, 1) := by decide +kernel
theorem d_F_operationCount_0 : decode b_F_operationCount 0 = .ok (.aload_n 0, 1) := by decide +kernel
theorem d_F_operationCount_1 : decode b_F_operationCount 1 = .ok (.getfield 25, 3) := by decide +kernel
theorem d_F_operationCount_4 : decode b_F_operationCount 4 = .ok (.ireturn, 1) := by decide +kernel
theorem d_F_writeCount_0 : decode b_F_writeCount 0 = .ok (.aload_n 0, 1) := by decide +kernel
theorem d_F_writeCount_1 : decode b_F_writeCount 1 = .ok (.getfield 28, 3) := by decide +kernel
theorem d_F_writeCount_4 : decode b_F_writeCount 4 = .ok (.ireturn, 1) := by decide +kernel
theorem d_F_writeByte_0 : decode b_F_writeByte 0 = .ok (.aload_n 0, 1) := by decide +kernel
theorem d_F_writeByte_1 : decode b_F_writeByte 1 = .ok (.invokevirtual 40, 3) := by decide +kernel
theorem d_F_writeByte_4 : decode b_F_writeByte 4 = .ok (.ifCond .ne 5, 3) := by decide +kernel
theorem d_F_writeByte_7 : decode b_F_writeByte 7 = .ok (.iconst 0, 1) := by decide +kernel
theorem d_F_writeByte_8 : decode b_F_writeByte 8 = .ok (.ireturn, 1) := by decide +kernel
theorem d_F_writeByte_9 : decode b_F_writeByte 9 = .ok (.aload_n 0, 1) := by decide +kernel
theorem d_F_writeByte_10 : decode b_F_writeByte 10 = .ok (.dup, 1) := by decide +kernel
theorem d_F_writeByte_11 : decode b_F_writeByte 11 = .ok (.getfield 28, 3) := by decide +kernel
theorem d_F_writeByte_14 : decode b_F_writeByte 14 = .ok (.iconst 1, 1) := by decide +kernel
theorem d_F_writeByte_15 : decode b_F_writeByte 15 = .ok (.iadd, 1) := by decide +kernel
theorem d_F_writeByte_16 : decode b_F_writeByte 16 = .ok (.putfield 28, 3) := by decide +kernel
theorem d_F_writeByte_19 : decode b_F_writeByte 19 = .ok (.aload_n 0, 1) := by decide +kernel
theorem d_F_writeByte_20 : decode b_F_writeByte 20 = .ok (.getfield 9, 3) := by decide +kernel
theorem d_F_writeByte_23 : decode b_F_writeByte 23 = .ok (.iload_n 1, 1) := by decide +kernel
theorem d_F_writeByte_24 : decode b_F_writeByte 24 = .ok (.dup2, 1) := by decide +kernel
theorem d_F_writeByte_25 : decode b_F_writeByte 25 = .ok (.iaload, 1) := by decide +kernel
theorem d_F_writeByte_26 : decode b_F_writeByte 26 = .ok (.iload_n 2, 1) := by decide +kernel
theorem d_F_writeByte_27 : decode b_F_writeByte 27 = .ok (.iand, 1) := by decide +kernel
theorem d_F_writeByte_28 : decode b_F_writeByte 28 = .ok (.iastore, 1) := by decide +kernel
theorem d_F_writeByte_29 : decode b_F_writeByte 29 = .ok (.iconst 1, 1) := by decide +kernel
theorem d_F_writeByte_30 : decode b_F_writeByte 30 = .ok (.ireturn, 1) := by decide +kernel
theorem d_F_erasePage_0 : decode b_F_erasePage 0 = .ok (.aload_n 0, 1) := by decide +kernel
theorem d_F_erasePage_1 : decode b_F_erasePage 1 = .ok (.invokevirtual 40, 3) := by decide +kernel
theorem d_F_erasePage_4 : decode b_F_erasePage 4 = .ok (.ifCond .ne 5, 3) := by decide +kernel
theorem d_F_erasePage_7 : decode b_F_erasePage 7 = .ok (.iconst 0, 1) := by decide +kernel
theorem d_F_erasePage_8 : decode b_F_erasePage 8 = .ok (.ireturn, 1) := by decide +kernel
theorem d_F_erasePage_9 : decode b_F_erasePage 9 = .ok (.iload_n 1, 1) := by decide +kernel
theorem d_F_erasePage_10 : decode b_F_erasePage 10 = .ok (.bipush 16, 2) := by decide +kernel
theorem d_F_erasePage_12 : decode b_F_erasePage 12 = .ok (.imul, 1) := by decide +kernel
theorem d_F_erasePage_13 : decode b_F_erasePage 13 = .ok (.istore_n 2, 1) := by decide +kernel
theorem d_F_erasePage_14 : decode b_F_erasePage 14 = .ok (.iconst 0, 1) := by decide +kernel
theorem d_F_erasePage_15 : decode b_F_erasePage 15 = .ok (.istore_n 3, 1) := by decide +kernel
theorem d_F_erasePage_16 : decode b_F_erasePage 16 = .ok (.iload_n 3, 1) := by decide +kernel
theorem d_F_erasePage_17 : decode b_F_erasePage 17 = .ok (.bipush 16, 2) := by decide +kernel
theorem d_F_erasePage_19 : decode b_F_erasePage 19 = .ok (.if_icmp .ge 20, 3) := by decide +kernel
theorem d_F_erasePage_22 : decode b_F_erasePage 22 = .ok (.aload_n 0, 1) := by decide +kernel
theorem d_F_erasePage_23 : decode b_F_erasePage 23 = .ok (.getfield 9, 3) := by decide +kernel
theorem d_F_erasePage_26 : decode b_F_erasePage 26 = .ok (.iload_n 2, 1) := by decide +kernel
theorem d_F_erasePage_27 : decode b_F_erasePage 27 = .ok (.iload_n 3, 1) := by decide +kernel
theorem d_F_erasePage_28 : decode b_F_erasePage 28 = .ok (.iadd, 1) := by decide +kernel
theorem d_F_erasePage_29 : decode b_F_erasePage 29 = .ok (.sipush 255, 3) := by decide +kernel
theorem d_F_erasePage_32 : decode b_F_erasePage 32 = .ok (.iastore, 1) := by decide +kernel
theorem d_F_erasePage_33 : decode b_F_erasePage 33 = .ok (.iinc 3 1, 3) := by decide +kernel
theorem d_F_erasePage_36 : decode b_F_erasePage 36 = .ok (.goto (-20), 3) := by decide +kernel
theorem d_F_erasePage_39 : decode b_F_erasePage 39 = .ok (.iconst 1, 1) := by decide +kernel
theorem d_F_erasePage_40 : decode b_F_erasePage 40 = .ok (.ireturn, 1) := by decide +kernel
theorem d_F_sumOf_0 : decode b_F_sumOf 0 = .ok (.bipush 7, 2) := by decide +kernel
theorem d_F_sumOf_2 : decode b_F_sumOf 2 = .ok (.istore 4, 2) := by decide +kernel
theorem d_F_sumOf_4 : decode b_F_sumOf 4 = .ok (.bipush 31, 2) := by decide +kernel
theorem d_F_sumOf_6 : decode b_F_sumOf 6 = .ok (.iload 4, 2) := by decide +kernel
theorem d_F_sumOf_8 : decode b_F_sumOf 8 = .ok (.imul, 1) := by decide +kernel
theorem d_F_sumOf_9 : decode b_F_sumOf 9 = .ok (.iload_n 2, 1) := by decide +kernel
theorem d_F_sumOf_10 : decode b_F_sumOf 10 = .ok (.iadd, 1) := by decide +kernel
theorem d_F_sumOf_11 : decode b_F_sumOf 11 = .ok (.sipush 255, 3) := by decide +kernel
theorem d_F_sumOf_14 : decode b_F_sumOf 14 = .ok (.iand, 1) := by decide +kernel
theorem d_F_sumOf_15 : decode b_F_sumOf 15 = .ok (.istore 4, 2) := by decide +kernel
theorem d_F_sumOf_17 : decode b_F_sumOf 17 = .ok (.bipush 31, 2) := by decide +kernel
theorem d_F_sumOf_19 : decode b_F_sumOf 19 = .ok (.iload 4, 2) := by decide +kernel
theorem d_F_sumOf_21 : decode b_F_sumOf 21 = .ok (.imul, 1) := by decide +kernel
theorem d_F_sumOf_22 : decode b_F_sumOf 22 = .ok (.iload_n 3, 1) := by decide +kernel
theorem d_F_sumOf_23 : decode b_F_sumOf 23 = .ok (.iadd, 1) := by decide +kernel
theorem d_F_sumOf_24 : decode b_F_sumOf 24 = .ok (.sipush 255, 3) := by decide +kernel
theorem d_F_sumOf_27 : decode b_F_sumOf 27 = .ok (.iand, 1) := by decide +kernel
theorem d_F_sumOf_28 : decode b_F_sumOf 28 = .ok (.istore 4, 2) := by decide +kernel
theorem d_F_sumOf_30 : decode b_F_sumOf 30 = .ok (.iconst 4, 1) := by decide +kernel
theorem d_F_sumOf_31 : decode b_F_sumOf 31 = .ok (.istore 5, 2) := by decide +kernel
theorem d_F_sumOf_33 : decode b_F_sumOf 33 = .ok (.iload 5, 2) := by decide +kernel
theorem d_F_sumOf_35 : decode b_F_sumOf 35 = .ok (.iload_n 3, 1) := by decide +kernel
theorem d_F_sumOf_36 : decode b_F_sumOf 36 = .ok (.if_icmp .ge 30, 3) := by decide +kernel
theorem d_F_sumOf_39 : decode b_F_sumOf 39 = .ok (.bipush 31, 2) := by decide +kernel
theorem d_F_sumOf_41 : decode b_F_sumOf 41 = .ok (.iload 4, 2) := by decide +kernel
theorem d_F_sumOf_43 : decode b_F_sumOf 43 = .ok (.imul, 1) := by decide +kernel
theorem d_F_sumOf_44 : decode b_F_sumOf 44 = .ok (.aload_n 0, 1) := by decide +kernel
theorem d_F_sumOf_45 : decode b_F_sumOf 45 = .ok (.getfield 9, 3) := by decide +kernel
theorem d_F_sumOf_48 : decode b_F_sumOf 48 = .ok (.iload_n 1, 1) := by decide +kernel
theorem d_F_sumOf_49 : decode b_F_sumOf 49 = .ok (.iload 5, 2) := by decide +kernel
theorem d_F_sumOf_51 : decode b_F_sumOf 51 = .ok (.iadd, 1) := by decide +kernel
theorem d_F_sumOf_52 : decode b_F_sumOf 52 = .ok (.iaload, 1) := by decide +kernel
theorem d_F_sumOf_53 : decode b_F_sumOf 53 = .ok (.iadd, 1) := by decide +kernel
theorem d_F_sumOf_54 : decode b_F_sumOf 54 = .ok (.sipush 255, 3) := by decide +kernel
theorem d_F_sumOf_57 : decode b_F_sumOf 57 = .ok (.iand, 1) := by decide +kernel
theorem d_F_sumOf_58 : decode b_F_sumOf 58 = .ok (.istore 4, 2) := by decide +kernel
theorem d_F_sumOf_60 : decode b_F_sumOf 60 = .ok (.iinc 5 1, 3) := by decide +kernel
theorem d_F_sumOf_63 : decode b_F_sumOf 63 = .ok (.goto (-30), 3) := by decide +kernel
theorem d_F_sumOf_66 : decode b_F_sumOf 66 = .ok (.iload 4, 2) := by decide +kernel
theorem d_F_sumOf_68 : decode b_F_sumOf 68 = .ok (.ireturn, 1) := by decide +kernel
theorem d_F_validVersion_0 : decode b_F_validVersion 0 = .ok (.aload_n 0, 1) := by decide +kernel
theorem d_F_validVersion_1 : decode b_F_validVersion 1 = .ok (.getfield 9, 3) := by decide +kernel
theorem d_F_validVersion_4 : decode b_F_validVersion 4 = .ok (.iload_n 1, 1) := by decide +kernel
theorem d_F_validVersion_5 : decode b_F_validVersion 5 = .ok (.iconst 1, 1) := by decide +kernel
theorem d_F_validVersion_6 : decode b_F_validVersion 6 = .ok (.iadd, 1) := by decide +kernel
theorem d_F_validVersion_7 : decode b_F_validVersion 7 = .ok (.iaload, 1) := by decide +kernel
theorem d_F_validVersion_8 : decode b_F_validVersion 8 = .ok (.istore_n 2, 1) := by decide +kernel
theorem d_F_validVersion_9 : decode b_F_validVersion 9 = .ok (.aload_n 0, 1) := by decide +kernel
theorem d_F_validVersion_10 : decode b_F_validVersion 10 = .ok (.getfield 9, 3) := by decide +kernel
theorem d_F_validVersion_13 : decode b_F_validVersion 13 = .ok (.iload_n 1, 1) := by decide +kernel
theorem d_F_validVersion_14 : decode b_F_validVersion 14 = .ok (.iconst 2, 1) := by decide +kernel
theorem d_F_validVersion_15 : decode b_F_validVersion 15 = .ok (.iadd, 1) := by decide +kernel
theorem d_F_validVersion_16 : decode b_F_validVersion 16 = .ok (.iaload, 1) := by decide +kernel
theorem d_F_validVersion_17 : decode b_F_validVersion 17 = .ok (.istore_n 3, 1) := by decide +kernel
theorem d_F_validVersion_18 : decode b_F_validVersion 18 = .ok (.aload_n 0, 1) := by decide +kernel
theorem d_F_validVersion_19 : decode b_F_validVersion 19 = .ok (.getfield 9, 3) := by decide +kernel
theorem d_F_validVersion_22 : decode b_F_validVersion 22 = .ok (.iload_n 1, 1) := by decide +kernel
theorem d_F_validVersion_23 : decode b_F_validVersion 23 = .ok (.iconst 0, 1) := by decide +kernel
theorem d_F_validVersion_24 : decode b_F_validVersion 24 = .ok (.iadd, 1) := by decide +kernel
theorem d_F_validVersion_25 : decode b_F_validVersion 25 = .ok (.iaload, 1) := by decide +kernel
theorem d_F_validVersion_26 : decode b_F_validVersion 26 = .ok (.sipush 165, 3) := by decide +kernel
theorem d_F_validVersion_29 : decode b_F_validVersion 29 = .ok (.if_icmp .ne 11, 3) := by decide +kernel
theorem d_F_validVersion_32 : decode b_F_validVersion 32 = .ok (.iload_n 2, 1) := by decide +kernel
theorem d_F_validVersion_33 : decode b_F_validVersion 33 = .ok (.iload_n 3, 1) := by decide +kernel
theorem d_F_validVersion_34 : decode b_F_validVersion 34 = .ok (.invokestatic 36, 3) := by decide +kernel
theorem d_F_validVersion_37 : decode b_F_validVersion 37 = .ok (.ifCond .ne 5, 3) := by decide +kernel
theorem d_F_validVersion_40 : decode b_F_validVersion 40 = .ok (.iconst 0, 1) := by decide +kernel
theorem d_F_validVersion_41 : decode b_F_validVersion 41 = .ok (.ireturn, 1) := by decide +kernel
theorem d_F_validVersion_42 : decode b_F_validVersion 42 = .ok (.aload_n 0, 1) := by decide +kernel
theorem d_F_validVersion_43 : decode b_F_validVersion 43 = .ok (.getfield 9, 3) := by decide +kernel
theorem d_F_validVersion_46 : decode b_F_validVersion 46 = .ok (.iload_n 1, 1) := by decide +kernel
theorem d_F_validVersion_47 : decode b_F_validVersion 47 = .ok (.iconst 3, 1) := by decide +kernel
theorem d_F_validVersion_48 : decode b_F_validVersion 48 = .ok (.iadd, 1) := by decide +kernel
theorem d_F_validVersion_49 : decode b_F_validVersion 49 = .ok (.iaload, 1) := by decide +kernel
theorem d_F_validVersion_50 : decode b_F_validVersion 50 = .ok (.aload_n 0, 1) := by decide +kernel
theorem d_F_validVersion_51 : decode b_F_validVersion 51 = .ok (.iload_n 1, 1) := by decide +kernel
theorem d_F_validVersion_52 : decode b_F_validVersion 52 = .ok (.iload_n 2, 1) := by decide +kernel
theorem d_F_validVersion_53 : decode b_F_validVersion 53 = .ok (.iload_n 3, 1) := by decide +kernel
theorem d_F_validVersion_54 : decode b_F_validVersion 54 = .ok (.invokevirtual 32, 3) := by decide +kernel
theorem d_F_validVersion_57 : decode b_F_validVersion 57 = .ok (.if_icmp .ne 7, 3) := by decide +kernel
theorem d_F_validVersion_60 : decode b_F_validVersion 60 = .ok (.iload_n 2, 1) := by decide +kernel
theorem d_F_validVersion_61 : decode b_F_validVersion 61 = .ok (.goto 4, 3) := by decide +kernel
theorem d_F_validVersion_64 : decode b_F_validVersion 64 = .ok (.iconst 0, 1) := by decide +kernel
theorem d_F_validVersion_65 : decode b_F_validVersion 65 = .ok (.ireturn, 1) := by decide +kernel
theorem d_F_movePage_0 : decode b_F_movePage 0 = .ok (.aload_n 0, 1) := by decide +kernel
theorem d_F_movePage_1 : decode b_F_movePage 1 = .ok (.iload_n 2, 1) := by decide +kernel
theorem d_F_movePage_2 : decode b_F_movePage 2 = .ok (.invokevirtual 44, 3) := by decide +kernel
theorem d_F_movePage_5 : decode b_F_movePage 5 = .ok (.ifCond .ne 5, 3) := by decide +kernel
theorem d_F_movePage_8 : decode b_F_movePage 8 = .ok (.iconst 0, 1) := by decide +kernel
theorem d_F_movePage_9 : decode b_F_movePage 9 = .ok (.ireturn, 1) := by decide +kernel
theorem d_F_movePage_10 : decode b_F_movePage 10 = .ok (.iconst 0, 1) := by decide +kernel
theorem d_F_movePage_11 : decode b_F_movePage 11 = .ok (.istore_n 3, 1) := by decide +kernel
theorem d_F_movePage_12 : decode b_F_movePage 12 = .ok (.iload_n 3, 1) := by decide +kernel
theorem d_F_movePage_13 : decode b_F_movePage 13 = .ok (.bipush 16, 2) := by decide +kernel
theorem d_F_movePage_15 : decode b_F_movePage 15 = .ok (.if_icmp .ge 47, 3) := by decide +kernel
theorem d_F_movePage_18 : decode b_F_movePage 18 = .ok (.aload_n 0, 1) := by decide +kernel
theorem d_F_movePage_19 : decode b_F_movePage 19 = .ok (.getfield 9, 3) := by decide +kernel
theorem d_F_movePage_22 : decode b_F_movePage 22 = .ok (.iload_n 1, 1) := by decide +kernel
theorem d_F_movePage_23 : decode b_F_movePage 23 = .ok (.bipush 16, 2) := by decide +kernel
theorem d_F_movePage_25 : decode b_F_movePage 25 = .ok (.imul, 1) := by decide +kernel
theorem d_F_movePage_26 : decode b_F_movePage 26 = .ok (.iload_n 3, 1) := by decide +kernel
theorem d_F_movePage_27 : decode b_F_movePage 27 = .ok (.iadd, 1) := by decide +kernel
theorem d_F_movePage_28 : decode b_F_movePage 28 = .ok (.iaload, 1) := by decide +kernel
theorem d_F_movePage_29 : decode b_F_movePage 29 = .ok (.istore 4, 2) := by decide +kernel
theorem d_F_movePage_31 : decode b_F_movePage 31 = .ok (.iload 4, 2) := by decide +kernel
theorem d_F_movePage_33 : decode b_F_movePage 33 = .ok (.sipush 255, 3) := by decide +kernel
theorem d_F_movePage_36 : decode b_F_movePage 36 = .ok (.if_icmp .eq 20, 3) := by decide +kernel
theorem d_F_movePage_39 : decode b_F_movePage 39 = .ok (.aload_n 0, 1) := by decide +kernel
theorem d_F_movePage_40 : decode b_F_movePage 40 = .ok (.iload_n 2, 1) := by decide +kernel
theorem d_F_movePage_41 : decode b_F_movePage 41 = .ok (.bipush 16, 2) := by decide +kernel
theorem d_F_movePage_43 : decode b_F_movePage 43 = .ok (.imul, 1) := by decide +kernel
theorem d_F_movePage_44 : decode b_F_movePage 44 = .ok (.iload_n 3, 1) := by decide +kernel
theorem d_F_movePage_45 : decode b_F_movePage 45 = .ok (.iadd, 1) := by decide +kernel
theorem d_F_movePage_46 : decode b_F_movePage 46 = .ok (.iload 4, 2) := by decide +kernel
theorem d_F_movePage_48 : decode b_F_movePage 48 = .ok (.invokevirtual 48, 3) := by decide +kernel
theorem d_F_movePage_51 : decode b_F_movePage 51 = .ok (.ifCond .ne 5, 3) := by decide +kernel
theorem d_F_movePage_54 : decode b_F_movePage 54 = .ok (.iconst 0, 1) := by decide +kernel
theorem d_F_movePage_55 : decode b_F_movePage 55 = .ok (.ireturn, 1) := by decide +kernel
theorem d_F_movePage_56 : decode b_F_movePage 56 = .ok (.iinc 3 1, 3) := by decide +kernel
theorem d_F_movePage_59 : decode b_F_movePage 59 = .ok (.goto (-47), 3) := by decide +kernel
theorem d_F_movePage_62 : decode b_F_movePage 62 = .ok (.iconst 1, 1) := by decide +kernel
theorem d_F_movePage_63 : decode b_F_movePage 63 = .ok (.ireturn, 1) := by decide +kernel
set_option maxHeartbeats 4000000 in
set_option maxRecDepth 100000 in
theorem k_X_isImageSize (l : Launch) (D : va_G) (cA : ClassId) (aX aF aB aL aP : Nat) (st : St) (sz : Nat) (v n : Int32) : Ci l y_X_isImageSize b_X_isImageSize 2 (some .boolean) 0 D cA (CW cA aX aF aB aL aP) st sz [.int v, .int n] (fun r u => r = b2i (psize v n) ∧ u = st) := by
  refine Ci.enter (by decide) (Nat.le_of_ble_eq_true rfl) ?_
  intro pr en s0 m0 ar bl me co A ls hx hb hml hr hlk hown hts hK hN hA hP hD hS hl
  have hl : lv_has ls 2 [(0, .int v), (1, .int n)] := hl
  have hown : s0.vm.findClass R_X = some m0.cls := hown
  refine lv_iload_n hx hb d_X_isImageSize_0 rfl (lv_at hl 0 rfl) ?_
  refine lv_iconst (v := 1) hx hb d_X_isImageSize_1 (by decide) ?_
  refine lv_icmp_lt (tgt := 28) hx hb d_X_isImageSize_2 (by decide) (fun h2 => ?_) (fun h2 => ?_)
  · skip
    refine lv_iconst (v := 0) hx hb d_X_isImageSize_28 (by decide) ?_
    refine sw_iret (u := st) (v := (0 : Int32)) hx hb hr hlk hK hP hD hS d_X_isImageSize_29 rfl ?_
    simp [psize, b2i, h2]
  · skip
    refine lv_iload_n hx hb d_X_isImageSize_5 rfl (lv_at hl 0 rfl) ?_
    refine lv_sipush (v := 250) hx hb d_X_isImageSize_6 (by decide) ?_
    refine lv_icmp_gt (tgt := 28) hx hb d_X_isImageSize_9 (by decide) (fun h9 => ?_) (fun h9 => ?_)
    · skip
      refine lv_iconst (v := 0) hx hb d_X_isImageSize_28 (by decide) ?_
      refine sw_iret (u := st) (v := (0 : Int32)) hx hb hr hlk hK hP hD hS d_X_isImageSize_29 rfl ?_
      simp [psize, b2i, h2, h9]
    · skip
      refine lv_iload_n hx hb d_X_isImageSize_12 rfl (lv_at hl 1 rfl) ?_
      refine lv_bipush (v := 8) hx hb d_X_isImageSize_13 (by decide) ?_
      refine lv_icmp_lt (tgt := 28) hx hb d_X_isImageSize_15 (by decide) (fun h15 => ?_) (fun h15 => ?_)
      · skip
        refine lv_iconst (v := 0) hx hb d_X_isImageSize_28 (by decide) ?_
        refine sw_iret (u := st) (v := (0 : Int32)) hx hb hr hlk hK hP hD hS d_X_isImageSize_29 rfl ?_
        simp [psize, b2i, h2, h9, h15]
      · skip
        refine lv_iload_n hx hb d_X_isImageSize_18 rfl (lv_at hl 1 rfl) ?_
        refine lv_bipush (v := 96) hx hb d_X_isImageSize_19 (by decide) ?_
        refine lv_icmp_gt (tgt := 28) hx hb d_X_isImageSize_21 (by decide) (fun h21 => ?_) (fun h21 => ?_)
        · skip
          refine lv_iconst (v := 0) hx hb d_X_isImageSize_28 (by decide) ?_
          refine sw_iret (u := st) (v := (0 : Int32)) hx hb hr hlk hK hP hD hS d_X_isImageSize_29 rfl ?_
          simp [psize, b2i, h2, h9, h15, h21]
        · skip
          refine lv_iconst (v := 1) hx hb d_X_isImageSize_24 (by decide) ?_
          refine lv_goto (tgt := 29) hx hb d_X_isImageSize_25 (by decide) ?_
          refine sw_iret (u := st) (v := (1 : Int32)) hx hb hr hlk hK hP hD hS d_X_isImageSize_29 rfl ?_
          simp [psize, b2i, h2, h9, h15, h21]
set_option maxHeartbeats 4000000 in
set_option maxRecDepth 100000 in
theorem k_F_spendOperation (l : Launch) (D : va_G) (cA : ClassId) (aX aF aB aL aP : Nat) (st : St) (sz : Nat) : Ci l y_F_spendOperation b_F_spendOperation 1 (some .boolean) 0 D cA (CW cA aX aF aB aL aP) st sz [.ref aF] (fun r u => r = b2i (!(pmay (st.1, false)).2) ∧ u = ((pmay (st.1, false)).1, st.2)) := by
  refine Ci.enter (by decide) (Nat.le_of_ble_eq_true rfl) ?_
  intro pr en s0 m0 ar bl me co A ls hx hb hml hr hlk hown hts hK hN hA hP hD hS hl
  have hl : lv_has ls 1 [(0, .ref aF)] := hl
  have hown : s0.vm.findClass R_F = some m0.cls := hown
  refine lv_aload_n hx hb d_F_spendOperation_0 rfl (lv_at hl 0 rfl) ?_
  refine va_get (D := D) (ci := 1) (v := .int st.1.2.1) (C := R_F) (T := T_F) (N := 4) hx hb hts in_F hown hK hP 1 rfl rfl 1 (by decide) (hts _ wm_30) (fun _ h9 => h9) rfl d_F_spendOperation_1 ?_
  refine lv_if_ne (tgt := 14) hx hb d_F_spendOperation_4 (by decide) (fun h4 => ?_) (fun h4 => ?_)
  · skip
    refine lv_aload_n hx hb d_F_spendOperation_14 rfl (lv_at hl 0 rfl) ?_
    refine va_get (D := D) (ci := 1) (v := .int st.1.2.1) (C := R_F) (T := T_F) (N := 4) hx hb hts in_F hown hK hP 1 rfl rfl 1 (by decide) (hts _ wm_30) (fun _ h9 => h9) rfl d_F_spendOperation_15 ?_
    refine lv_if_le (tgt := 31) hx hb d_F_spendOperation_18 (by decide) (fun h18 => ?_) (fun h18 => ?_)
    · skip
      have h18 := i32_nlt h18
      refine lv_aload_n hx hb d_F_spendOperation_31 rfl (lv_at hl 0 rfl) ?_
      refine lv_dup hx hb d_F_spendOperation_32 rfl ?_
      refine va_get (D := D) (ci := 1) (v := .int st.1.2.2.1) (C := R_F) (T := T_F) (N := 4) hx hb hts in_F hown hK hP 1 rfl rfl 2 (by decide) (hts _ wm_31) (fun _ h9 => h9) rfl d_F_spendOperation_33 ?_
      refine lv_iconst (v := 1) hx hb d_F_spendOperation_36 (by decide) ?_
      refine lv_iadd hx hb d_F_spendOperation_37 ?_
      refine va_put (D := D) (ci := 1) (v := .int (st.1.2.2.1 + (1 : Int32))) (ty := .int) (C := R_F) (T := T_F) (N := 4) hx hb hts in_F ty_F ty_F_ok nm_F hown hK hP hD hS 1 rfl rfl 2 (by decide) (hts _ wm_31) (fun _ h9 => h9) rfl (ty_F_ok 2 (by decide)) rfl rfl (Nat.le_of_ble_eq_true rfl) d_F_spendOperation_38 (fun H locs hP hD hS => ?_)
      have hP : va_P D vwC (CW cA aX aF aB aL aP ((st.1.1, st.1.2.1, (st.1.2.2.1 + (1 : Int32)), st.1.2.2.2), (st.2.1.1, st.2.1.2), (st.2.2.1, st.2.2.2.1, st.2.2.2.2.1, st.2.2.2.2.2.1, st.2.2.2.2.2.2.1, st.2.2.2.2.2.2.2))) H := hP
      have hD : va_D A (CW cA aX aF aB aL aP ((st.1.1, st.1.2.1, (st.1.2.2.1 + (1 : Int32)), st.1.2.2.2), (st.2.1.1, st.2.1.2), (st.2.2.1, st.2.2.2.1, st.2.2.2.2.1, st.2.2.2.2.2.1, st.2.2.2.2.2.2.1, st.2.2.2.2.2.2.2))) := hD
      refine lv_iconst (v := 1) hx hb d_F_spendOperation_41 (by decide) ?_
      refine sw_iret (u := ((st.1.1, st.1.2.1, (st.1.2.2.1 + (1 : Int32)), st.1.2.2.2), (st.2.1.1, st.2.1.2), (st.2.2.1, st.2.2.2.1, st.2.2.2.2.1, st.2.2.2.2.2.1, st.2.2.2.2.2.2.1, st.2.2.2.2.2.2.2))) (v := (1 : Int32)) hx hb hr hlk hK hP hD hS d_F_spendOperation_42 rfl ?_
      simp [pmay, b2i, h4, h18]
    · skip
      have h18 := i32_lt h18
      refine lv_aload_n hx hb d_F_spendOperation_21 rfl (lv_at hl 0 rfl) ?_
      refine lv_dup hx hb d_F_spendOperation_22 rfl ?_
      refine va_get (D := D) (ci := 1) (v := .int st.1.2.1) (C := R_F) (T := T_F) (N := 4) hx hb hts in_F hown hK hP 1 rfl rfl 1 (by decide) (hts _ wm_30) (fun _ h9 => h9) rfl d_F_spendOperation_23 ?_
      refine lv_iconst (v := 1) hx hb d_F_spendOperation_26 (by decide) ?_
      refine lv_isub hx hb d_F_spendOperation_27 ?_
      refine va_put (D := D) (ci := 1) (v := .int (st.1.2.1 - (1 : Int32))) (ty := .int) (C := R_F) (T := T_F) (N := 4) hx hb hts in_F ty_F ty_F_ok nm_F hown hK hP hD hS 1 rfl rfl 1 (by decide) (hts _ wm_30) (fun _ h9 => h9) rfl (ty_F_ok 1 (by decide)) rfl rfl (Nat.le_of_ble_eq_true rfl) d_F_spendOperation_28 (fun H locs hP hD hS => ?_)
      have hP : va_P D vwC (CW cA aX aF aB aL aP ((st.1.1, (st.1.2.1 - (1 : Int32)), st.1.2.2.1, st.1.2.2.2), (st.2.1.1, st.2.1.2), (st.2.2.1, st.2.2.2.1, st.2.2.2.2.1, st.2.2.2.2.2.1, st.2.2.2.2.2.2.1, st.2.2.2.2.2.2.2))) H := hP
      have hD : va_D A (CW cA aX aF aB aL aP ((st.1.1, (st.1.2.1 - (1 : Int32)), st.1.2.2.1, st.1.2.2.2), (st.2.1.1, st.2.1.2), (st.2.2.1, st.2.2.2.1, st.2.2.2.2.1, st.2.2.2.2.2.1, st.2.2.2.2.2.2.1, st.2.2.2.2.2.2.2))) := hD
      refine lv_aload_n hx hb d_F_spendOperation_31 rfl (lv_at hl 0 rfl) ?_
      refine lv_dup hx hb d_F_spendOperation_32 rfl ?_
      refine va_get (D := D) (ci := 1) (v := .int st.1.2.2.1) (C := R_F) (T := T_F) (N := 4) hx hb hts in_F hown hK hP 1 rfl rfl 2 (by decide) (hts _ wm_31) (fun _ h9 => h9) rfl d_F_spendOperation_33 ?_
      refine lv_iconst (v := 1) hx hb d_F_spendOperation_36 (by decide) ?_
      refine lv_iadd hx hb d_F_spendOperation_37 ?_
      refine va_put (D := D) (ci := 1) (v := .int (st.1.2.2.1 + (1 : Int32))) (ty := .int) (C := R_F) (T := T_F) (N := 4) hx hb hts in_F ty_F ty_F_ok nm_F hown hK hP hD hS 1 rfl rfl 2 (by decide) (hts _ wm_31) (fun _ h9 => h9) rfl (ty_F_ok 2 (by decide)) rfl rfl (Nat.le_of_ble_eq_true rfl) d_F_spendOperation_38 (fun H locs hP hD hS => ?_)
      have hP : va_P D vwC (CW cA aX aF aB aL aP ((st.1.1, (st.1.2.1 - (1 : Int32)), (st.1.2.2.1 + (1 : Int32)), st.1.2.2.2), (st.2.1.1, st.2.1.2), (st.2.2.1, st.2.2.2.1, st.2.2.2.2.1, st.2.2.2.2.2.1, st.2.2.2.2.2.2.1, st.2.2.2.2.2.2.2))) H := hP
      have hD : va_D A (CW cA aX aF aB aL aP ((st.1.1, (st.1.2.1 - (1 : Int32)), (st.1.2.2.1 + (1 : Int32)), st.1.2.2.2), (st.2.1.1, st.2.1.2), (st.2.2.1, st.2.2.2.1, st.2.2.2.2.1, st.2.2.2.2.2.1, st.2.2.2.2.2.2.1, st.2.2.2.2.2.2.2))) := hD
      refine lv_iconst (v := 1) hx hb d_F_spendOperation_41 (by decide) ?_
      refine sw_iret (u := ((st.1.1, (st.1.2.1 - (1 : Int32)), (st.1.2.2.1 + (1 : Int32)), st.1.2.2.2), (st.2.1.1, st.2.1.2), (st.2.2.1, st.2.2.2.1, st.2.2.2.2.1, st.2.2.2.2.2.1, st.2.2.2.2.2.2.1, st.2.2.2.2.2.2.2))) (v := (1 : Int32)) hx hb hr hlk hK hP hD hS d_F_spendOperation_42 rfl ?_
      simp [pmay, b2i, h4, h18]
  · skip
    refine lv_aload_n hx hb d_F_spendOperation_7 rfl (lv_at hl 0 rfl) ?_
    refine lv_iconst (v := -1) hx hb d_F_spendOperation_8 (by decide) ?_
    refine va_put (D := D) (ci := 1) (v := .int (-1 : Int32)) (ty := .int) (C := R_F) (T := T_F) (N := 4) hx hb hts in_F ty_F ty_F_ok nm_F hown hK hP hD hS 1 rfl rfl 1 (by decide) (hts _ wm_30) (fun _ h9 => h9) rfl (ty_F_ok 1 (by decide)) rfl rfl (Nat.le_of_ble_eq_true rfl) d_F_spendOperation_9 (fun H locs hP hD hS => ?_)
    have hP : va_P D vwC (CW cA aX aF aB aL aP ((st.1.1, (-1 : Int32), st.1.2.2.1, st.1.2.2.2), (st.2.1.1, st.2.1.2), (st.2.2.1, st.2.2.2.1, st.2.2.2.2.1, st.2.2.2.2.2.1, st.2.2.2.2.2.2.1, st.2.2.2.2.2.2.2))) H := hP
    have hD : va_D A (CW cA aX aF aB aL aP ((st.1.1, (-1 : Int32), st.1.2.2.1, st.1.2.2.2), (st.2.1.1, st.2.1.2), (st.2.2.1, st.2.2.2.1, st.2.2.2.2.1, st.2.2.2.2.2.1, st.2.2.2.2.2.2.1, st.2.2.2.2.2.2.2))) := hD
    refine lv_iconst (v := 0) hx hb d_F_spendOperation_12 (by decide) ?_
    refine sw_iret (u := ((st.1.1, (-1 : Int32), st.1.2.2.1, st.1.2.2.2), (st.2.1.1, st.2.1.2), (st.2.2.1, st.2.2.2.1, st.2.2.2.2.1, st.2.2.2.2.2.1, st.2.2.2.2.2.2.1, st.2.2.2.2.2.2.2))) (v := (0 : Int32)) hx hb hr hlk hK hP hD hS d_F_spendOperation_13 rfl ?_
    simp [pmay, b2i, h4]
set_option maxHeartbeats 4000000 in
set_option maxRecDepth 100000 in
theorem k_F_read (l : Launch) (D : va_G) (cA : ClassId) (aX aF aB aL aP : Nat) (st : St) (sz : Nat) (n : Nat) (h : n < 240) : Ci l y_F_read b_F_read 2 (some .int) 0 D cA (CW cA aX aF aB aL aP) st sz [.ref aF, .int (nI n)] (fun r u => r = st.1.1 n ∧ u = st) := by
  refine Ci.enter (by decide) (Nat.le_of_ble_eq_true rfl) ?_
  intro pr en s0 m0 ar bl me co A ls hx hb hml hr hlk hown hts hK hN hA hP hD hS hl
  have hl : lv_has ls 2 [(0, .ref aF), (1, .int (nI n))] := hl
  have hown : s0.vm.findClass R_F = some m0.cls := hown
  refine lv_aload_n hx hb d_F_read_0 rfl (lv_at hl 0 rfl) ?_
  refine va_get (D := D) (ci := 1) (v := .ref aB) (C := R_F) (T := T_F) (N := 4) hx hb hts in_F hown hK hP 1 rfl rfl 0 (by decide) (hts _ wm_29) (fun _ h9 => h9) rfl d_F_read_1 ?_
  refine lv_iload_n hx hb d_F_read_4 rfl (lv_at hl 1 rfl) ?_
  refine sw_ald (n := n) (f := st.1.1) hx hb hK hP 2 0 rfl rfl (by omega) (by decide) d_F_read_5 ?_
  refine sw_iret (u := st) (v := (st.1.1 n)) hx hb hr hlk hK hP hD hS d_F_read_6 rfl ?_
  exact ⟨rfl, rfl⟩
set_option maxHeartbeats 4000000 in
set_option maxRecDepth 100000 in
theorem k_F_setCut (l : Launch) (D : va_G) (cA : ClassId) (aX aF aB aL aP : Nat) (st : St) (sz : Nat) (k : Int32) : Cv l y_F_setCut b_F_setCut 2 none 0 D cA (CW cA aX aF aB aL aP) st sz [.ref aF, .int k] (fun u => u = ((st.1.1, k, st.1.2.2.1, st.1.2.2.2), st.2)) := by
  refine Cv.enter (by decide) (Nat.le_of_ble_eq_true rfl) ?_
  intro pr en s0 m0 ar bl me co A ls hx hb hml hr hlk hown hts hK hN hA hP hD hS hl
  have hl : lv_has ls 2 [(0, .ref aF), (1, .int k)] := hl
  have hown : s0.vm.findClass R_F = some m0.cls := hown
  refine lv_aload_n hx hb d_F_setCut_0 rfl (lv_at hl 0 rfl) ?_
  refine lv_iload_n hx hb d_F_setCut_1 rfl (lv_at hl 1 rfl) ?_
  refine va_put (D := D) (ci := 1) (v := .int k) (ty := .int) (C := R_F) (T := T_F) (N := 4) hx hb hts in_F ty_F ty_F_ok nm_F hown hK hP hD hS 1 rfl rfl 1 (by decide) (hts _ wm_30) (fun _ h9 => h9) rfl (ty_F_ok 1 (by decide)) rfl rfl (Nat.le_of_ble_eq_true rfl) d_F_setCut_2 (fun H locs hP hD hS => ?_)
  have hP : va_P D vwC (CW cA aX aF aB aL aP ((st.1.1, k, st.1.2.2.1, st.1.2.2.2), (st.2.1.1, st.2.1.2), (st.2.2.1, st.2.2.2.1, st.2.2.2.2.1, st.2.2.2.2.2.1, st.2.2.2.2.2.2.1, st.2.2.2.2.2.2.2))) H := hP
  have hD : va_D A (CW cA aX aF aB aL aP ((st.1.1, k, st.1.2.2.1, st.1.2.2.2), (st.2.1.1, st.2.1.2), (st.2.2.1, st.2.2.2.1, st.2.2.2.2.1, st.2.2.2.2.2.1, st.2.2.2.2.2.2.1, st.2.2.2.2.2.2.2))) := hD
  refine sw_vret (u := ((st.1.1, k, st.1.2.2.1, st.1.2.2.2), (st.2.1.1, st.2.1.2), (st.2.2.1, st.2.2.2.1, st.2.2.2.2.1, st.2.2.2.2.2.1, st.2.2.2.2.2.2.1, st.2.2.2.2.2.2.2))) hx hb hr hlk hK hP hD hS d_F_setCut_5 ?_
  rfl
set_option maxHeartbeats 4000000 in
set_option maxRecDepth 100000 in
theorem k_F_clearCut (l : Launch) (D : va_G) (cA : ClassId) (aX aF aB aL aP : Nat) (st : St) (sz : Nat) : Cv l y_F_clearCut b_F_clearCut 1 none 0 D cA (CW cA aX aF aB aL aP) st sz [.ref aF] (fun u => u = ((st.1.1, -1, st.1.2.2.1, st.1.2.2.2), st.2)) := by
  refine Cv.enter (by decide) (Nat.le_of_ble_eq_true rfl) ?_
  intro pr en s0 m0 ar bl me co A ls hx hb hml hr hlk hown hts hK hN hA hP hD hS hl
  have hl : lv_has ls 1 [(0, .ref aF)] := hl
  have hown : s0.vm.findClass R_F = some m0.cls := hown
  refine lv_aload_n hx hb d_F_clearCut_0 rfl (lv_at hl 0 rfl) ?_
  refine lv_iconst (v := -1) hx hb d_F_clearCut_1 (by decide) ?_
  refine va_put (D := D) (ci := 1) (v := .int (-1 : Int32)) (ty := .int) (C := R_F) (T := T_F) (N := 4) hx hb hts in_F ty_F ty_F_ok nm_F hown hK hP hD hS 1 rfl rfl 1 (by decide) (hts _ wm_30) (fun _ h9 => h9) rfl (ty_F_ok 1 (by decide)) rfl rfl (Nat.le_of_ble_eq_true rfl) d_F_clearCut_2 (fun H locs hP hD hS => ?_)
  have hP : va_P D vwC (CW cA aX aF aB aL aP ((st.1.1, (-1 : Int32), st.1.2.2.1, st.1.2.2.2), (st.2.1.1, st.2.1.2), (st.2.2.1, st.2.2.2.1, st.2.2.2.2.1, st.2.2.2.2.2.1, st.2.2.2.2.2.2.1, st.2.2.2.2.2.2.2))) H := hP
  have hD : va_D A (CW cA aX aF aB aL aP ((st.1.1, (-1 : Int32), st.1.2.2.1, st.1.2.2.2), (st.2.1.1, st.2.1.2), (st.2.2.1, st.2.2.2.1, st.2.2.2.2.1, st.2.2.2.2.2.1, st.2.2.2.2.2.2.1, st.2.2.2.2.2.2.2))) := hD
  refine sw_vret (u := ((st.1.1, (-1 : Int32), st.1.2.2.1, st.1.2.2.2), (st.2.1.1, st.2.1.2), (st.2.2.1, st.2.2.2.1, st.2.2.2.2.1, st.2.2.2.2.2.1, st.2.2.2.2.2.2.1, st.2.2.2.2.2.2.2))) hx hb hr hlk hK hP hD hS d_F_clearCut_5 ?_
  rfl
set_option maxHeartbeats 4000000 in
set_option maxRecDepth 100000 in
theorem k_F_cutLeft (l : Launch) (D : va_G) (cA : ClassId) (aX aF aB aL aP : Nat) (st : St) (sz : Nat) : Ci l y_F_cutLeft b_F_cutLeft 1 (some .int) 0 D cA (CW cA aX aF aB aL aP) st sz [.ref aF] (fun r u => r = st.1.2.1 ∧ u = st) := by
  refine Ci.enter (by decide) (Nat.le_of_ble_eq_true rfl) ?_
  intro pr en s0 m0 ar bl me co A ls hx hb hml hr hlk hown hts hK hN hA hP hD hS hl
  have hl : lv_has ls 1 [(0, .ref aF)] := hl
  have hown : s0.vm.findClass R_F = some m0.cls := hown
  refine lv_aload_n hx hb d_F_cutLeft_0 rfl (lv_at hl 0 rfl) ?_
  refine va_get (D := D) (ci := 1) (v := .int st.1.2.1) (C := R_F) (T := T_F) (N := 4) hx hb hts in_F hown hK hP 1 rfl rfl 1 (by decide) (hts _ wm_30) (fun _ h9 => h9) rfl d_F_cutLeft_1 ?_
  refine sw_iret (u := st) (v := st.1.2.1) hx hb hr hlk hK hP hD hS d_F_cutLeft_4 rfl ?_
  exact ⟨rfl, rfl⟩
set_option maxHeartbeats 4000000 in
set_option maxRecDepth 100000 in
theorem k_F_operationCount (l : Launch) (D : va_G) (cA : ClassId) (aX aF aB aL aP : Nat) (st : St) (sz : Nat) : Ci l y_F_operationCount b_F_operationCount 1 (some .int) 0 D cA (CW cA aX aF aB aL aP) st sz [.ref aF] (fun r u => r = st.1.2.2.1 ∧ u = st) := by
  refine Ci.enter (by decide) (Nat.le_of_ble_eq_true rfl) ?_
  intro pr en s0 m0 ar bl me co A ls hx hb hml hr hlk hown hts hK hN hA hP hD hS hl
  have hl : lv_has ls 1 [(0, .ref aF)] := hl
  have hown : s0.vm.findClass R_F = some m0.cls := hown
  refine lv_aload_n hx hb d_F_operationCount_0 rfl (lv_at hl 0 rfl) ?_
  refine va_get (D := D) (ci := 1) (v := .int st.1.2.2.1) (C := R_F) (T := T_F) (N := 4) hx hb hts in_F hown hK hP 1 rfl rfl 2 (by decide) (hts _ wm_31) (fun _ h9 => h9) rfl d_F_operationCount_1 ?_
  refine sw_iret (u := st) (v := st.1.2.2.1) hx hb hr hlk hK hP hD hS d_F_operationCount_4 rfl ?_
  exact ⟨rfl, rfl⟩
set_option maxHeartbeats 4000000 in
set_option maxRecDepth 100000 in
theorem k_F_writeCount (l : Launch) (D : va_G) (cA : ClassId) (aX aF aB aL aP : Nat) (st : St) (sz : Nat) : Ci l y_F_writeCount b_F_writeCount 1 (some .int) 0 D cA (CW cA aX aF aB aL aP) st sz [.ref aF] (fun r u => r = st.1.2.2.2 ∧ u = st) := by
  refine Ci.enter (by decide) (Nat.le_of_ble_eq_true rfl) ?_
  intro pr en s0 m0 ar bl me co A ls hx hb hml hr hlk hown hts hK hN hA hP hD hS hl
  have hl : lv_has ls 1 [(0, .ref aF)] := hl
  have hown : s0.vm.findClass R_F = some m0.cls := hown
  refine lv_aload_n hx hb d_F_writeCount_0 rfl (lv_at hl 0 rfl) ?_
  refine va_get (D := D) (ci := 1) (v := .int st.1.2.2.2) (C := R_F) (T := T_F) (N := 4) hx hb hts in_F hown hK hP 1 rfl rfl 3 (by decide) (hts _ wm_32) (fun _ h9 => h9) rfl d_F_writeCount_1 ?_
  refine sw_iret (u := st) (v := st.1.2.2.2) hx hb hr hlk hK hP hD hS d_F_writeCount_4 rfl ?_
  exact ⟨rfl, rfl⟩
set_option maxHeartbeats 4000000 in
set_option maxRecDepth 100000 in
theorem k_F_writeByte (l : Launch) (D : va_G) (cA : ClassId) (aX aF aB aL aP : Nat) (st : St) (sz : Nat) (a : Nat) (v : Int32) (h : a < 240) : Ci l y_F_writeByte b_F_writeByte 3 (some .boolean) 1 D cA (CW cA aX aF aB aL aP) st sz [.ref aF, .int (nI a), .int v] (fun r u => r = b2i (!(pwrite a v (st.1, false)).2) ∧ u = ((pwrite a v (st.1, false)).1, st.2)) := by
  refine Ci.enter (by decide) (Nat.le_of_ble_eq_true rfl) ?_
  intro pr en s0 m0 ar bl me co A ls hx hb hml hr hlk hown hts hK hN hA hP hD hS hl
  have hl : lv_has ls 3 [(0, .ref aF), (1, .int (nI a)), (2, .int v)] := hl
  have hown : s0.vm.findClass R_F = some m0.cls := hown
  refine lv_aload_n hx hb d_F_writeByte_0 rfl (lv_at hl 0 rfl) ?_
  refine sw_callVi (rest := []) 1 1 [] hx hb hml hown hts hK hN hA hP hD hS (k_F_spendOperation l D cA aX aF aB aL aP st _) cw_F_40 rfl rfl rfl ⟨Nat.le_of_ble_eq_true rfl, Nat.le_of_ble_eq_true rfl⟩ hl.1 rfl rfl (Nat.le_of_ble_eq_true rfl) d_F_writeByte_1 (fun r1 u1 H locs hq1 hP hD hS => ?_)
  obtain ⟨hr1, hu1⟩ := hq1
  rw [hr1]
  refine sw_bz_ne (tgt := 9) hx hb d_F_writeByte_4 (by decide) (fun h4 => ?_) (fun h4 => ?_)
  · skip
    refine lv_aload_n hx hb d_F_writeByte_9 rfl (lv_at hl 0 rfl) ?_
    refine lv_dup hx hb d_F_writeByte_10 rfl ?_
    refine va_get (D := D) (ci := 1) (v := .int u1.1.2.2.2) (C := R_F) (T := T_F) (N := 4) hx hb hts in_F hown hK hP 1 rfl rfl 3 (by decide) (hts _ wm_32) (fun _ h9 => h9) rfl d_F_writeByte_11 ?_
    refine lv_iconst (v := 1) hx hb d_F_writeByte_14 (by decide) ?_
    refine lv_iadd hx hb d_F_writeByte_15 ?_
    refine va_put (D := D) (ci := 1) (v := .int (u1.1.2.2.2 + (1 : Int32))) (ty := .int) (C := R_F) (T := T_F) (N := 4) hx hb hts in_F ty_F ty_F_ok nm_F hown hK hP hD hS 1 rfl rfl 3 (by decide) (hts _ wm_32) (fun _ h9 => h9) rfl (ty_F_ok 3 (by decide)) rfl rfl (Nat.le_of_ble_eq_true rfl) d_F_writeByte_16 (fun H locs hP hD hS => ?_)
    have hP : va_P D vwC (CW cA aX aF aB aL aP ((u1.1.1, u1.1.2.1, u1.1.2.2.1, (u1.1.2.2.2 + (1 : Int32))), (u1.2.1.1, u1.2.1.2), (u1.2.2.1, u1.2.2.2.1, u1.2.2.2.2.1, u1.2.2.2.2.2.1, u1.2.2.2.2.2.2.1, u1.2.2.2.2.2.2.2))) H := hP
    have hD : va_D A (CW cA aX aF aB aL aP ((u1.1.1, u1.1.2.1, u1.1.2.2.1, (u1.1.2.2.2 + (1 : Int32))), (u1.2.1.1, u1.2.1.2), (u1.2.2.1, u1.2.2.2.1, u1.2.2.2.2.1, u1.2.2.2.2.2.1, u1.2.2.2.2.2.2.1, u1.2.2.2.2.2.2.2))) := hD
    refine lv_aload_n hx hb d_F_writeByte_19 rfl (lv_at hl 0 rfl) ?_
    refine va_get (D := D) (ci := 1) (v := .ref aB) (C := R_F) (T := T_F) (N := 4) hx hb hts in_F hown hK hP 1 rfl rfl 0 (by decide) (hts _ wm_29) (fun _ h9 => h9) rfl d_F_writeByte_20 ?_
    refine lv_iload_n hx hb d_F_writeByte_23 rfl (lv_at hl 1 rfl) ?_
    refine lv_dup2_11 hx hb d_F_writeByte_24 rfl rfl ?_
    refine sw_ald (n := a) (f := u1.1.1) hx hb hK hP 2 0 rfl rfl (by omega) (by decide) d_F_writeByte_25 ?_
    refine lv_iload_n hx hb d_F_writeByte_26 rfl (lv_at hl 2 rfl) ?_
    refine lv_iand hx hb d_F_writeByte_27 ?_
    refine sw_ast (n := a) (x := ((u1.1.1 a) &&& v)) (f := u1.1.1) hx hb hK hP hD hS 2 0 rfl rfl (by omega) (by decide) d_F_writeByte_28 (fun H locs hP hD hS => ?_)
    have hP : va_P D vwC (CW cA aX aF aB aL aP ((upd u1.1.1 a ((u1.1.1 a) &&& v), u1.1.2.1, u1.1.2.2.1, (u1.1.2.2.2 + (1 : Int32))), (u1.2.1.1, u1.2.1.2), (u1.2.2.1, u1.2.2.2.1, u1.2.2.2.2.1, u1.2.2.2.2.2.1, u1.2.2.2.2.2.2.1, u1.2.2.2.2.2.2.2))) H := hP
    have hD : va_D A (CW cA aX aF aB aL aP ((upd u1.1.1 a ((u1.1.1 a) &&& v), u1.1.2.1, u1.1.2.2.1, (u1.1.2.2.2 + (1 : Int32))), (u1.2.1.1, u1.2.1.2), (u1.2.2.1, u1.2.2.2.1, u1.2.2.2.2.1, u1.2.2.2.2.2.1, u1.2.2.2.2.2.2.1, u1.2.2.2.2.2.2.2))) := hD
    refine lv_iconst (v := 1) hx hb d_F_writeByte_29 (by decide) ?_
    refine sw_iret (u := ((upd u1.1.1 a ((u1.1.1 a) &&& v), u1.1.2.1, u1.1.2.2.1, (u1.1.2.2.2 + (1 : Int32))), (u1.2.1.1, u1.2.1.2), (u1.2.2.1, u1.2.2.2.1, u1.2.2.2.2.1, u1.2.2.2.2.2.1, u1.2.2.2.2.2.2.1, u1.2.2.2.2.2.2.2))) (v := (1 : Int32)) hx hb hr hlk hK hP hD hS d_F_writeByte_30 rfl ?_
    have hw := mz_ok h4
    have hz : pwrite a v (st.1, false) = _ := if_neg (show ¬ (pmay (st.1, false)).2 = true by rw [hw]; decide)
    rw [hz, hu1]
    exact ⟨rfl, rfl⟩
  · skip
    refine lv_iconst (v := 0) hx hb d_F_writeByte_7 (by decide) ?_
    refine sw_iret (u := u1) (v := (0 : Int32)) hx hb hr hlk hK hP hD hS d_F_writeByte_8 rfl ?_
    have hw := mz_no h4
    have hz : pwrite a v (st.1, false) = pmay (st.1, false) := if_pos hw
    rw [hz, hw]
    exact ⟨rfl, hu1⟩
set_option maxHeartbeats 4000000 in
set_option maxRecDepth 100000 in
theorem k_F_erasePage (l : Launch) (D : va_G) (cA : ClassId) (aX aF aB aL aP : Nat) (st : St) (sz : Nat) (p0 : Nat) (h : p0 < 15) : Ci l y_F_erasePage b_F_erasePage 4 (some .boolean) 1 D cA (CW cA aX aF aB aL aP) st sz [.ref aF, .int (nI p0)] (fun r u => r = b2i (!(perase p0 (st.1, false)).2) ∧ u = ((perase p0 (st.1, false)).1, st.2)) := by
  refine Ci.enter (by decide) (Nat.le_of_ble_eq_true rfl) ?_
  intro pr en s0 m0 ar bl me co A ls hx hb hml hr hlk hown hts hK hN hA hP hD hS hl
  have hl : lv_has ls 4 [(0, .ref aF), (1, .int (nI p0))] := hl
  have hown : s0.vm.findClass R_F = some m0.cls := hown
  refine lv_aload_n hx hb d_F_erasePage_0 rfl (lv_at hl 0 rfl) ?_
  refine sw_callVi (rest := []) 1 1 [] hx hb hml hown hts hK hN hA hP hD hS (k_F_spendOperation l D cA aX aF aB aL aP st _) cw_F_40 rfl rfl rfl ⟨Nat.le_of_ble_eq_true rfl, Nat.le_of_ble_eq_true rfl⟩ hl.1 rfl rfl (Nat.le_of_ble_eq_true rfl) d_F_erasePage_1 (fun r1 u1 H locs hq1 hP hD hS => ?_)
  obtain ⟨hr1, hu1⟩ := hq1
  rw [hr1]
  refine sw_bz_ne (tgt := 9) hx hb d_F_erasePage_4 (by decide) (fun h4 => ?_) (fun h4 => ?_)
  · skip
    refine lv_iload_n hx hb d_F_erasePage_9 rfl (lv_at hl 1 rfl) ?_
    refine lv_bipush (v := 16) hx hb d_F_erasePage_10 (by decide) ?_
    refine lv_imul hx hb d_F_erasePage_12 ?_
    refine sw_tp (y := nI (p0 * 16)) (pk_mul p0 16) ?_
    refine lv_istore_n hx hb d_F_erasePage_13 rfl hl (by decide) rfl (fun ls hl => ?_)
    have hl : lv_has ls 4 [(2, .int (nI (p0 * 16))), (0, .ref aF), (1, .int (nI p0))] := hl
    refine lv_iconst (v := 0) hx hb d_F_erasePage_14 (by decide) ?_
    refine lv_istore_n hx hb d_F_erasePage_15 rfl hl (by decide) rfl (fun ls hl => ?_)
    have hl : lv_has ls 4 [(3, .int (0 : Int32)), (2, .int (nI (p0 * 16))), (0, .ref aF), (1, .int (nI p0))] := hl
    have loop : ∀ (d : Nat) (i : Nat) (u : St) (H : Heap) (locs : List Loc) (ls : Array Slot), 16 - i = d → i ≤ 16 → u.1.1 = pfill u1.1.1 (p0 * 16) i → u.1.2 = u1.1.2 → u.2 = u1.2 → lv_has ls 4 [(3, .int (nI i)), (2, .int (nI (p0 * 16))), (0, .ref aF), (1, .int (nI p0))] → va_P D vwC (CW cA aX aF aB aL aP u) H → va_D A (CW cA aX aF aB aL aP u) → va_S A s0.heap H locs → W pr l en (lvr 1) s0 m0 ar bl me co H locs 0 0 (MQ bl (va_Qi (fun r u => r = b2i (!(perase p0 (st.1, false)).2) ∧ u = ((perase p0 (st.1, false)).1, st.2)) (sw_B D cA A (CW cA aX aF aB aL aP)) A) ar s0 0 0 A) (F0 m0 16 ls []) := by
      intro d
      induction d using Nat.strongRecOn with
      | ind d ih =>
        intro i u H locs ls hd hi hF hG hE hl hP hD hS
        refine lv_iload_n hx hb d_F_erasePage_16 rfl (lv_at hl 0 rfl) ?_
        refine lv_bipush (v := 16) hx hb d_F_erasePage_17 (by decide) ?_
        refine sw_nc_ge (a := i) (b := 16) (tgt := 39) hx hb (by omega) (by omega) d_F_erasePage_19 (by decide) (fun h19 => ?_) (fun h19 => ?_)
        · skip
          refine lv_iconst (v := 1) hx hb d_F_erasePage_39 (by decide) ?_
          refine sw_iret (u := u) (v := (1 : Int32)) hx hb hr hlk hK hP hD hS d_F_erasePage_40 rfl ?_
          have hi : i = 16 := by omega
          subst hi
          have hw := mz_ok h4
          have hz : perase p0 (st.1, false) = _ := if_neg (show ¬ (pmay (st.1, false)).2 = true by rw [hw]; decide)
          rw [hu1] at hF hG hE
          rw [hz]
          exact ⟨rfl, Prod.ext (Prod.ext hF hG) hE⟩
        · skip
          refine lv_aload_n hx hb d_F_erasePage_22 rfl (lv_at hl 2 rfl) ?_
          refine va_get (D := D) (ci := 1) (v := .ref aB) (C := R_F) (T := T_F) (N := 4) hx hb hts in_F hown hK hP 1 rfl rfl 0 (by decide) (hts _ wm_29) (fun _ h9 => h9) rfl d_F_erasePage_23 ?_
          refine lv_iload_n hx hb d_F_erasePage_26 rfl (lv_at hl 1 rfl) ?_
          refine lv_iload_n hx hb d_F_erasePage_27 rfl (lv_at hl 0 rfl) ?_
          refine lv_iadd hx hb d_F_erasePage_28 ?_
          refine sw_tp (y := nI ((p0 * 16) + i)) (nI_add (p0 * 16) i) ?_
          refine lv_sipush (v := 255) hx hb d_F_erasePage_29 (by decide) ?_
          refine sw_ast (n := (p0 * 16) + i) (x := (255 : Int32)) (f := u.1.1) hx hb hK hP hD hS 2 0 rfl rfl (by omega) (by decide) d_F_erasePage_32 (fun H locs hP hD hS => ?_)
          have hP : va_P D vwC (CW cA aX aF aB aL aP ((upd u.1.1 ((p0 * 16) + i) (255 : Int32), u.1.2.1, u.1.2.2.1, u.1.2.2.2), (u.2.1.1, u.2.1.2), (u.2.2.1, u.2.2.2.1, u.2.2.2.2.1, u.2.2.2.2.2.1, u.2.2.2.2.2.2.1, u.2.2.2.2.2.2.2))) H := hP
          have hD : va_D A (CW cA aX aF aB aL aP ((upd u.1.1 ((p0 * 16) + i) (255 : Int32), u.1.2.1, u.1.2.2.1, u.1.2.2.2), (u.2.1.1, u.2.1.2), (u.2.2.1, u.2.2.2.1, u.2.2.2.2.1, u.2.2.2.2.2.1, u.2.2.2.2.2.2.1, u.2.2.2.2.2.2.2))) := hD
          refine lv_iinc (k := 0) (v := nI (i + 1)) hx hb d_F_erasePage_33 hl rfl (nI_1 _) (by decide) rfl (fun ls hl => ?_)
          have hl : lv_has ls 4 [(3, .int (nI (i + 1))), (2, .int (nI (p0 * 16))), (0, .ref aF), (1, .int (nI p0))] := hl
          refine lv_goto (tgt := 16) hx hb d_F_erasePage_36 (by decide) ?_
          exact ih (16 - (i + 1)) (by omega) (i + 1) ((upd u.1.1 ((p0 * 16) + i) (255 : Int32), u.1.2.1, u.1.2.2.1, u.1.2.2.2), (u.2.1.1, u.2.1.2), (u.2.2.1, u.2.2.2.1, u.2.2.2.2.1, u.2.2.2.2.2.1, u.2.2.2.2.2.2.1, u.2.2.2.2.2.2.2)) _ _ _ rfl (by omega) (by rw [hF]; exact pfill_s _ _ _) hG hE (lv_sub hl [0, 1, 2, 3] rfl) hP hD hS
    exact loop _ 0 u1 _ _ _ rfl (by omega) (pfill_0 _ _).symm rfl rfl (lv_sub hl [0, 1, 2, 3] rfl) hP hD hS
  · skip
    refine lv_iconst (v := 0) hx hb d_F_erasePage_7 (by decide) ?_
    refine sw_iret (u := u1) (v := (0 : Int32)) hx hb hr hlk hK hP hD hS d_F_erasePage_8 rfl ?_
    have hw := mz_no h4
    have hz : perase p0 (st.1, false) = pmay (st.1, false) := if_pos hw
    rw [hz, hw]
    exact ⟨rfl, hu1⟩
set_option maxHeartbeats 4000000 in
set_option maxRecDepth 100000 in
theorem k_F_sumOf (l : Launch) (D : va_G) (cA : ClassId) (aX aF aB aL aP : Nat) (st : St) (sz : Nat) (a : Nat) (v : Int32) (n : Nat) (h4 : 4 ≤ n) (h : a + n ≤ 240) : Ci l y_F_sumOf b_F_sumOf 6 (some .int) 0 D cA (CW cA aX aF aB aL aP) st sz [.ref aF, .int (nI a), .int v, .int (nI n)] (fun r u => r = psum st.1.1 a v n ∧ u = st) := by
  refine Ci.enter (by decide) (Nat.le_of_ble_eq_true rfl) ?_
  intro pr en s0 m0 ar bl me co A ls hx hb hml hr hlk hown hts hK hN hA hP hD hS hl
  have hl : lv_has ls 6 [(0, .ref aF), (1, .int (nI a)), (2, .int v), (3, .int (nI n))] := hl
  have hown : s0.vm.findClass R_F = some m0.cls := hown
  refine lv_bipush (v := 7) hx hb d_F_sumOf_0 (by decide) ?_
  refine lv_istore hx hb d_F_sumOf_2 hl (by decide) rfl (fun ls hl => ?_)
  have hl : lv_has ls 6 [(4, .int (7 : Int32)), (0, .ref aF), (1, .int (nI a)), (2, .int v), (3, .int (nI n))] := hl
  refine lv_bipush (v := 31) hx hb d_F_sumOf_4 (by decide) ?_
  refine lv_iload hx hb d_F_sumOf_6 (lv_at hl 0 rfl) ?_
  refine lv_imul hx hb d_F_sumOf_8 ?_
  refine sw_tp (y := 217) (by decide) ?_
  refine lv_iload_n hx hb d_F_sumOf_9 rfl (lv_at hl 3 rfl) ?_
  refine lv_iadd hx hb d_F_sumOf_10 ?_
  refine lv_sipush (v := 255) hx hb d_F_sumOf_11 (by decide) ?_
  refine lv_iand hx hb d_F_sumOf_14 ?_
  refine lv_istore hx hb d_F_sumOf_15 hl (by decide) rfl (fun ls hl => ?_)
  have hl : lv_has ls 6 [(4, .int (((217 : Int32) + v) &&& (255 : Int32))), (0, .ref aF), (1, .int (nI a)), (2, .int v), (3, .int (nI n))] := hl
  refine lv_bipush (v := 31) hx hb d_F_sumOf_17 (by decide) ?_
  refine lv_iload hx hb d_F_sumOf_19 (lv_at hl 0 rfl) ?_
  refine lv_imul hx hb d_F_sumOf_21 ?_
  refine lv_iload_n hx hb d_F_sumOf_22 rfl (lv_at hl 4 rfl) ?_
  refine lv_iadd hx hb d_F_sumOf_23 ?_
  refine lv_sipush (v := 255) hx hb d_F_sumOf_24 (by decide) ?_
  refine lv_iand hx hb d_F_sumOf_27 ?_
  refine lv_istore hx hb d_F_sumOf_28 hl (by decide) rfl (fun ls hl => ?_)
  have hl : lv_has ls 6 [(4, .int ((((31 : Int32) * (((217 : Int32) + v) &&& (255 : Int32))) + (nI n)) &&& (255 : Int32))), (0, .ref aF), (1, .int (nI a)), (2, .int v), (3, .int (nI n))] := hl
  refine lv_iconst (v := 4) hx hb d_F_sumOf_30 (by decide) ?_
  refine lv_istore hx hb d_F_sumOf_31 hl (by decide) rfl (fun ls hl => ?_)
  have hl : lv_has ls 6 [(5, .int (4 : Int32)), (4, .int ((((31 : Int32) * (((217 : Int32) + v) &&& (255 : Int32))) + (nI n)) &&& (255 : Int32))), (0, .ref aF), (1, .int (nI a)), (2, .int v), (3, .int (nI n))] := hl
  have loop : ∀ (d : Nat) (i : Nat) (x : Int32) (H : Heap) (locs : List Loc) (ls : Array Slot), n - i = d → i ≤ n → psml st.1.1 a (n - i) i x = psum st.1.1 a v n → lv_has ls 6 [(5, .int (nI i)), (4, .int x), (0, .ref aF), (1, .int (nI a)), (2, .int v), (3, .int (nI n))] → va_P D vwC (CW cA aX aF aB aL aP st) H → va_D A (CW cA aX aF aB aL aP st) → va_S A s0.heap H locs → W pr l en (lvr 0) s0 m0 ar bl me co H locs 0 0 (MQ bl (va_Qi (fun r u => r = psum st.1.1 a v n ∧ u = st) (sw_B D cA A (CW cA aX aF aB aL aP)) A) ar s0 0 0 A) (F0 m0 33 ls []) := by
    intro d
    induction d using Nat.strongRecOn with
    | ind d ih =>
      intro i x H locs ls hd hi hT hl hP hD hS
      refine lv_iload hx hb d_F_sumOf_33 (lv_at hl 0 rfl) ?_
      refine lv_iload_n hx hb d_F_sumOf_35 rfl (lv_at hl 5 rfl) ?_
      refine sw_nc_ge (a := i) (b := n) (tgt := 66) hx hb (by omega) (by omega) d_F_sumOf_36 (by decide) (fun h36 => ?_) (fun h36 => ?_)
      · skip
        refine lv_iload hx hb d_F_sumOf_66 (lv_at hl 1 rfl) ?_
        refine sw_iret (u := st) (v := x) hx hb hr hlk hK hP hD hS d_F_sumOf_68 rfl ?_
        have hi : i = n := by omega
        subst hi
        rw [Nat.sub_self, psml_0] at hT
        exact ⟨hT, rfl⟩
      · skip
        refine lv_bipush (v := 31) hx hb d_F_sumOf_39 (by decide) ?_
        refine lv_iload hx hb d_F_sumOf_41 (lv_at hl 1 rfl) ?_
        refine lv_imul hx hb d_F_sumOf_43 ?_
        refine lv_aload_n hx hb d_F_sumOf_44 rfl (lv_at hl 2 rfl) ?_
        refine va_get (D := D) (ci := 1) (v := .ref aB) (C := R_F) (T := T_F) (N := 4) hx hb hts in_F hown hK hP 1 rfl rfl 0 (by decide) (hts _ wm_29) (fun _ h9 => h9) rfl d_F_sumOf_45 ?_
        refine lv_iload_n hx hb d_F_sumOf_48 rfl (lv_at hl 3 rfl) ?_
        refine lv_iload hx hb d_F_sumOf_49 (lv_at hl 0 rfl) ?_
        refine lv_iadd hx hb d_F_sumOf_51 ?_
        refine sw_tp (y := nI (a + i)) (nI_add a i) ?_
        refine sw_ald (n := a + i) (f := st.1.1) hx hb hK hP 2 0 rfl rfl (by omega) (by decide) d_F_sumOf_52 ?_
        refine lv_iadd hx hb d_F_sumOf_53 ?_
        refine lv_sipush (v := 255) hx hb d_F_sumOf_54 (by decide) ?_
        refine lv_iand hx hb d_F_sumOf_57 ?_
        refine lv_istore hx hb d_F_sumOf_58 hl (by decide) rfl (fun ls hl => ?_)
        have hl : lv_has ls 6 [(4, .int ((((31 : Int32) * x) + (st.1.1 (a + i))) &&& (255 : Int32))), (5, .int (nI i)), (0, .ref aF), (1, .int (nI a)), (2, .int v), (3, .int (nI n))] := hl
        refine lv_iinc (k := 1) (v := nI (i + 1)) hx hb d_F_sumOf_60 hl rfl (nI_1 _) (by decide) rfl (fun ls hl => ?_)
        have hl : lv_has ls 6 [(5, .int (nI (i + 1))), (4, .int ((((31 : Int32) * x) + (st.1.1 (a + i))) &&& (255 : Int32))), (0, .ref aF), (1, .int (nI a)), (2, .int v), (3, .int (nI n))] := hl
        refine lv_goto (tgt := 33) hx hb d_F_sumOf_63 (by decide) ?_
        exact ih (n - (i + 1)) (by omega) (i + 1) _ _ _ _ rfl (by omega) ((psml_s (i := i) (by omega)).symm.trans hT) (lv_sub hl [0, 1, 2, 3, 4, 5] rfl) hP hD hS
  exact loop _ 4 _ _ _ _ rfl h4 rfl (lv_sub hl [0, 1, 2, 3, 4, 5] rfl) hP hD hS
set_option maxHeartbeats 4000000 in
set_option maxRecDepth 100000 in
theorem k_F_validVersion (l : Launch) (D : va_G) (cA : ClassId) (aX aF aB aL aP : Nat) (st : St) (sz : Nat) (a : Nat) (h : a + 96 ≤ 240) : Ci l y_F_validVersion b_F_validVersion 4 (some .int) 1 D cA (CW cA aX aF aB aL aP) st sz [.ref aF, .int (nI a)] (fun r u => r = pimg st.1.1 a ∧ u = st) := by
  refine Ci.enter (by decide) (Nat.le_of_ble_eq_true rfl) ?_
  intro pr en s0 m0 ar bl me co A ls hx hb hml hr hlk hown hts hK hN hA hP hD hS hl
  have hl : lv_has ls 4 [(0, .ref aF), (1, .int (nI a))] := hl
  have hown : s0.vm.findClass R_F = some m0.cls := hown
  refine lv_aload_n hx hb d_F_validVersion_0 rfl (lv_at hl 0 rfl) ?_
  refine va_get (D := D) (ci := 1) (v := .ref aB) (C := R_F) (T := T_F) (N := 4) hx hb hts in_F hown hK hP 1 rfl rfl 0 (by decide) (hts _ wm_29) (fun _ h9 => h9) rfl d_F_validVersion_1 ?_
  refine lv_iload_n hx hb d_F_validVersion_4 rfl (lv_at hl 1 rfl) ?_
  refine lv_iconst (v := 1) hx hb d_F_validVersion_5 (by decide) ?_
  refine lv_iadd hx hb d_F_validVersion_6 ?_
  refine sw_tp (y := nI (a + 1)) (nI_add a 1) ?_
  refine sw_ald (n := a + 1) (f := st.1.1) hx hb hK hP 2 0 rfl rfl (by omega) (by decide) d_F_validVersion_7 ?_
  refine lv_istore_n hx hb d_F_validVersion_8 rfl hl (by decide) rfl (fun ls hl => ?_)
  have hl : lv_has ls 4 [(2, .int (st.1.1 (a + 1))), (0, .ref aF), (1, .int (nI a))] := hl
  refine lv_aload_n hx hb d_F_validVersion_9 rfl (lv_at hl 1 rfl) ?_
  refine va_get (D := D) (ci := 1) (v := .ref aB) (C := R_F) (T := T_F) (N := 4) hx hb hts in_F hown hK hP 1 rfl rfl 0 (by decide) (hts _ wm_29) (fun _ h9 => h9) rfl d_F_validVersion_10 ?_
  refine lv_iload_n hx hb d_F_validVersion_13 rfl (lv_at hl 2 rfl) ?_
  refine lv_iconst (v := 2) hx hb d_F_validVersion_14 (by decide) ?_
  refine lv_iadd hx hb d_F_validVersion_15 ?_
  refine sw_tp (y := nI (a + 2)) (nI_add a 2) ?_
  refine sw_ald (n := a + 2) (f := st.1.1) hx hb hK hP 2 0 rfl rfl (by omega) (by decide) d_F_validVersion_16 ?_
  refine lv_istore_n hx hb d_F_validVersion_17 rfl hl (by decide) rfl (fun ls hl => ?_)
  have hl : lv_has ls 4 [(3, .int (st.1.1 (a + 2))), (2, .int (st.1.1 (a + 1))), (0, .ref aF), (1, .int (nI a))] := hl
  refine lv_aload_n hx hb d_F_validVersion_18 rfl (lv_at hl 2 rfl) ?_
  refine va_get (D := D) (ci := 1) (v := .ref aB) (C := R_F) (T := T_F) (N := 4) hx hb hts in_F hown hK hP 1 rfl rfl 0 (by decide) (hts _ wm_29) (fun _ h9 => h9) rfl d_F_validVersion_19 ?_
  refine lv_iload_n hx hb d_F_validVersion_22 rfl (lv_at hl 3 rfl) ?_
  refine lv_iconst (v := 0) hx hb d_F_validVersion_23 (by decide) ?_
  refine lv_iadd hx hb d_F_validVersion_24 ?_
  refine sw_tp (y := nI a) (nI_add a 0) ?_
  refine sw_ald (n := a) (f := st.1.1) hx hb hK hP 2 0 rfl rfl (by omega) (by decide) d_F_validVersion_25 ?_
  refine lv_sipush (v := 165) hx hb d_F_validVersion_26 (by decide) ?_
  refine lv_icmp_ne (tgt := 40) hx hb d_F_validVersion_29 (by decide) (fun h29 => ?_) (fun h29 => ?_)
  · skip
    refine lv_iconst (v := 0) hx hb d_F_validVersion_40 (by decide) ?_
    refine sw_iret (u := st) (v := (0 : Int32)) hx hb hr hlk hK hP hD hS d_F_validVersion_41 rfl ?_
    rw [pimg_no (fun q => h29 q.1)]
    exact ⟨rfl, rfl⟩
  · skip
    refine lv_iload_n hx hb d_F_validVersion_32 rfl (lv_at hl 1 rfl) ?_
    refine lv_iload_n hx hb d_F_validVersion_33 rfl (lv_at hl 0 rfl) ?_
    refine sw_callNi (rest := []) [.int (st.1.1 (a + 1)), .int (st.1.1 (a + 2))] hx hb hml hown hts hK hN hA hP hD hS (k_X_isImageSize l D cA aX aF aB aL aP st _ (st.1.1 (a + 1)) (st.1.1 (a + 2))) cw_F_36 ⟨Nat.le_of_ble_eq_true rfl, Nat.le_of_ble_eq_true rfl⟩ hl.1 rfl rfl (Nat.le_of_ble_eq_true rfl) d_F_validVersion_34 (fun r34 u34 H locs hq34 hP hD hS => ?_)
    obtain ⟨hr34, hq34⟩ := hq34
    rw [hr34]
    rw [hq34] at hP hD
    refine sw_bz_ne (tgt := 42) hx hb d_F_validVersion_37 (by decide) (fun h37 => ?_) (fun h37 => ?_)
    · skip
      obtain ⟨n3, hn3, hn4, hn5⟩ : ∃ k : Nat, st.1.1 (a + 2) = nI k ∧ 8 ≤ k ∧ k ≤ 96 := psize_n h37
      refine lv_aload_n hx hb d_F_validVersion_42 rfl (lv_at hl 2 rfl) ?_
      refine va_get (D := D) (ci := 1) (v := .ref aB) (C := R_F) (T := T_F) (N := 4) hx hb hts in_F hown hK hP 1 rfl rfl 0 (by decide) (hts _ wm_29) (fun _ h9 => h9) rfl d_F_validVersion_43 ?_
      refine lv_iload_n hx hb d_F_validVersion_46 rfl (lv_at hl 3 rfl) ?_
      refine lv_iconst (v := 3) hx hb d_F_validVersion_47 (by decide) ?_
      refine lv_iadd hx hb d_F_validVersion_48 ?_
      refine sw_tp (y := nI (a + 3)) (nI_add a 3) ?_
      refine sw_ald (n := a + 3) (f := st.1.1) hx hb hK hP 2 0 rfl rfl (by omega) (by decide) d_F_validVersion_49 ?_
      refine lv_aload_n hx hb d_F_validVersion_50 rfl (lv_at hl 2 rfl) ?_
      refine lv_iload_n hx hb d_F_validVersion_51 rfl (lv_at hl 3 rfl) ?_
      refine lv_iload_n hx hb d_F_validVersion_52 rfl (lv_at hl 1 rfl) ?_
      refine lv_iload_n hx hb d_F_validVersion_53 rfl (lv_at hl 0 rfl) ?_
      refine sw_tp (y := nI n3) hn3 ?_
      refine sw_callVi (rest := [.int (st.1.1 (a + 3))]) 1 1 [.int (nI a), .int (st.1.1 (a + 1)), .int (nI n3)] hx hb hml hown hts hK hN hA hP hD hS (k_F_sumOf l D cA aX aF aB aL aP st _ a (st.1.1 (a + 1)) n3 (by omega) (by omega)) cw_F_32 rfl rfl rfl ⟨Nat.le_of_ble_eq_true rfl, Nat.le_of_ble_eq_true rfl⟩ hl.1 rfl rfl (Nat.le_of_ble_eq_true rfl) d_F_validVersion_54 (fun r54 u54 H locs hq54 hP hD hS => ?_)
      obtain ⟨hr54, hq54⟩ := hq54
      rw [hr54]
      rw [hq54] at hP hD
      refine lv_icmp_ne (tgt := 64) hx hb d_F_validVersion_57 (by decide) (fun h57 => ?_) (fun h57 => ?_)
      · skip
        refine lv_iconst (v := 0) hx hb d_F_validVersion_64 (by decide) ?_
        refine sw_iret (u := st) (v := (0 : Int32)) hx hb hr hlk hK hP hD hS d_F_validVersion_65 rfl ?_
        rw [pimg_no (fun q => h57 (by have q3 := q.2.2; rw [hn3, nI_clamp (show n3 < 2 ^ 31 by omega)] at q3; exact q3))]
        exact ⟨rfl, rfl⟩
      · skip
        refine lv_iload_n hx hb d_F_validVersion_60 rfl (lv_at hl 1 rfl) ?_
        refine lv_goto (tgt := 65) hx hb d_F_validVersion_61 (by decide) ?_
        refine sw_iret (u := st) (v := (st.1.1 (a + 1))) hx hb hr hlk hK hP hD hS d_F_validVersion_65 rfl ?_
        rw [pimg_yes h29 h37 (by rw [h57, hn3, nI_clamp (show n3 < 2 ^ 31 by omega)])]
        exact ⟨rfl, rfl⟩
    · skip
      refine lv_iconst (v := 0) hx hb d_F_validVersion_40 (by decide) ?_
      refine sw_iret (u := st) (v := (0 : Int32)) hx hb hr hlk hK hP hD hS d_F_validVersion_41 rfl ?_
      rw [pimg_no (fun q => by rw [q.2.1] at h37; cases h37)]
      exact ⟨rfl, rfl⟩
set_option maxHeartbeats 4000000 in
set_option maxRecDepth 100000 in
theorem k_F_movePage (l : Launch) (D : va_G) (cA : ClassId) (aX aF aB aL aP : Nat) (st : St) (sz : Nat) (fr to : Nat) (h1 : fr < 15) (h2 : to < 15) : Ci l y_F_movePage b_F_movePage 5 (some .boolean) 2 D cA (CW cA aX aF aB aL aP) st sz [.ref aF, .int (nI fr), .int (nI to)] (fun r u => r = b2i (!(pmove to fr (st.1, false)).2) ∧ u = ((pmove to fr (st.1, false)).1, st.2)) := by
  refine Ci.enter (by decide) (Nat.le_of_ble_eq_true rfl) ?_
  intro pr en s0 m0 ar bl me co A ls hx hb hml hr hlk hown hts hK hN hA hP hD hS hl
  have hl : lv_has ls 5 [(0, .ref aF), (1, .int (nI fr)), (2, .int (nI to))] := hl
  have hown : s0.vm.findClass R_F = some m0.cls := hown
  refine lv_aload_n hx hb d_F_movePage_0 rfl (lv_at hl 0 rfl) ?_
  refine lv_iload_n hx hb d_F_movePage_1 rfl (lv_at hl 2 rfl) ?_
  refine sw_callVi (rest := []) 1 1 [.int (nI to)] hx hb hml hown hts hK hN hA hP hD hS (k_F_erasePage l D cA aX aF aB aL aP st _ to (by omega)) cw_F_44 rfl rfl rfl ⟨Nat.le_of_ble_eq_true rfl, Nat.le_of_ble_eq_true rfl⟩ hl.1 rfl rfl (Nat.le_of_ble_eq_true rfl) d_F_movePage_2 (fun r2 u2 H locs hq2 hP hD hS => ?_)
  obtain ⟨hr2, hu2⟩ := hq2
  rw [hr2]
  refine sw_bz_ne (tgt := 10) hx hb d_F_movePage_5 (by decide) (fun h5 => ?_) (fun h5 => ?_)
  · skip
    have hw := mz_ok h5
    refine lv_iconst (v := 0) hx hb d_F_movePage_10 (by decide) ?_
    refine lv_istore_n hx hb d_F_movePage_11 rfl hl (by decide) rfl (fun ls hl => ?_)
    have hl : lv_has ls 5 [(3, .int (0 : Int32)), (0, .ref aF), (1, .int (nI fr)), (2, .int (nI to))] := hl
    have loop : ∀ (d : Nat) (i : Nat) (u : St) (H : Heap) (locs : List Loc) (ls : Array Slot), 16 - i = d → i ≤ 16 → pmvl to fr (16 - i) i (u.1, false) = pmove to fr (st.1, false) → u.2 = st.2 → lv_has ls 5 [(3, .int (nI i)), (0, .ref aF), (1, .int (nI fr)), (2, .int (nI to))] → va_P D vwC (CW cA aX aF aB aL aP u) H → va_D A (CW cA aX aF aB aL aP u) → va_S A s0.heap H locs → W pr l en (lvr 2) s0 m0 ar bl me co H locs 0 0 (MQ bl (va_Qi (fun r u => r = b2i (!(pmove to fr (st.1, false)).2) ∧ u = ((pmove to fr (st.1, false)).1, st.2)) (sw_B D cA A (CW cA aX aF aB aL aP)) A) ar s0 0 0 A) (F0 m0 12 ls []) := by
      intro d
      induction d using Nat.strongRecOn with
      | ind d ih =>
        intro i u H locs ls hd hi hT hE hl hP hD hS
        refine lv_iload_n hx hb d_F_movePage_12 rfl (lv_at hl 0 rfl) ?_
        refine lv_bipush (v := 16) hx hb d_F_movePage_13 (by decide) ?_
        refine sw_nc_ge (a := i) (b := 16) (tgt := 62) hx hb (by omega) (by omega) d_F_movePage_15 (by decide) (fun h15 => ?_) (fun h15 => ?_)
        · skip
          refine lv_iconst (v := 1) hx hb d_F_movePage_62 (by decide) ?_
          refine sw_iret (u := u) (v := (1 : Int32)) hx hb hr hlk hK hP hD hS d_F_movePage_63 rfl ?_
          have hi : i = 16 := by omega
          subst hi
          have hz : pmove to fr (st.1, false) = (u.1, false) := (pmvl_0.symm.trans hT).symm
          rw [hz]
          exact ⟨rfl, Prod.ext rfl hE⟩
        · skip
          refine lv_aload_n hx hb d_F_movePage_18 rfl (lv_at hl 1 rfl) ?_
          refine va_get (D := D) (ci := 1) (v := .ref aB) (C := R_F) (T := T_F) (N := 4) hx hb hts in_F hown hK hP 1 rfl rfl 0 (by decide) (hts _ wm_29) (fun _ h9 => h9) rfl d_F_movePage_19 ?_
          refine lv_iload_n hx hb d_F_movePage_22 rfl (lv_at hl 2 rfl) ?_
          refine lv_bipush (v := 16) hx hb d_F_movePage_23 (by decide) ?_
          refine lv_imul hx hb d_F_movePage_25 ?_
          refine sw_tp (y := nI (fr * 16)) (pk_mul fr 16) ?_
          refine lv_iload_n hx hb d_F_movePage_26 rfl (lv_at hl 0 rfl) ?_
          refine lv_iadd hx hb d_F_movePage_27 ?_
          refine sw_tp (y := nI ((fr * 16) + i)) (nI_add (fr * 16) i) ?_
          refine sw_ald (n := (fr * 16) + i) (f := u.1.1) hx hb hK hP 2 0 rfl rfl (by omega) (by decide) d_F_movePage_28 ?_
          refine lv_istore hx hb d_F_movePage_29 hl (by decide) rfl (fun ls hl => ?_)
          have hl : lv_has ls 5 [(4, .int (u.1.1 ((fr * 16) + i))), (3, .int (nI i)), (0, .ref aF), (1, .int (nI fr)), (2, .int (nI to))] := hl
          refine lv_iload hx hb d_F_movePage_31 (lv_at hl 0 rfl) ?_
          refine lv_sipush (v := 255) hx hb d_F_movePage_33 (by decide) ?_
          refine lv_icmp_eq (tgt := 56) hx hb d_F_movePage_36 (by decide) (fun h36 => ?_) (fun h36 => ?_)
          · skip
            refine lv_iinc (k := 1) (v := nI (i + 1)) hx hb d_F_movePage_56 hl rfl (nI_1 _) (by decide) rfl (fun ls hl => ?_)
            have hl : lv_has ls 5 [(3, .int (nI (i + 1))), (4, .int (u.1.1 ((fr * 16) + i))), (0, .ref aF), (1, .int (nI fr)), (2, .int (nI to))] := hl
            refine lv_goto (tgt := 12) hx hb d_F_movePage_59 (by decide) ?_
            exact ih (16 - (i + 1)) (by omega) (i + 1) u _ _ _ rfl (by omega) (by rw [← hT, pmvl_s (i := i) (by omega), pmv1_skip h36]) hE (lv_sub hl [0, 2, 3, 4] rfl) hP hD hS
          · skip
            refine lv_aload_n hx hb d_F_movePage_39 rfl (lv_at hl 2 rfl) ?_
            refine lv_iload_n hx hb d_F_movePage_40 rfl (lv_at hl 4 rfl) ?_
            refine lv_bipush (v := 16) hx hb d_F_movePage_41 (by decide) ?_
            refine lv_imul hx hb d_F_movePage_43 ?_
            refine sw_tp (y := nI (to * 16)) (pk_mul to 16) ?_
            refine lv_iload_n hx hb d_F_movePage_44 rfl (lv_at hl 1 rfl) ?_
            refine lv_iadd hx hb d_F_movePage_45 ?_
            refine sw_tp (y := nI ((to * 16) + i)) (nI_add (to * 16) i) ?_
            refine lv_iload hx hb d_F_movePage_46 (lv_at hl 0 rfl) ?_
            refine sw_callVi (rest := []) 1 1 [.int (nI ((to * 16) + i)), .int (u.1.1 ((fr * 16) + i))] hx hb hml hown hts hK hN hA hP hD hS (k_F_writeByte l D cA aX aF aB aL aP u _ ((to * 16) + i) (u.1.1 ((fr * 16) + i)) (by omega)) cw_F_48 rfl rfl rfl ⟨Nat.le_of_ble_eq_true rfl, Nat.le_of_ble_eq_true rfl⟩ hl.1 rfl rfl (Nat.le_of_ble_eq_true rfl) d_F_movePage_48 (fun r48 u48 H locs hq48 hP hD hS => ?_)
            obtain ⟨hr48, hu48⟩ := hq48
            rw [hr48]
            refine sw_bz_ne (tgt := 56) hx hb d_F_movePage_51 (by decide) (fun h51 => ?_) (fun h51 => ?_)
            · skip
              refine lv_iinc (k := 1) (v := nI (i + 1)) hx hb d_F_movePage_56 hl rfl (nI_1 _) (by decide) rfl (fun ls hl => ?_)
              have hl : lv_has ls 5 [(3, .int (nI (i + 1))), (4, .int (u.1.1 ((fr * 16) + i))), (0, .ref aF), (1, .int (nI fr)), (2, .int (nI to))] := hl
              refine lv_goto (tgt := 12) hx hb d_F_movePage_59 (by decide) ?_
              exact ih (16 - (i + 1)) (by omega) (i + 1) u48 _ _ _ rfl (by omega) (by rw [← hT, pmvl_s (i := i) (by omega), pmv1_go h36, hu48]; exact congrArg (pmvl to fr (16 - (i + 1)) (i + 1)) (mz_eq (mz_ok h51))) (by rw [hu48]; exact hE) (lv_sub hl [0, 2, 3, 4] rfl) hP hD hS
            · skip
              refine lv_iconst (v := 0) hx hb d_F_movePage_54 (by decide) ?_
              refine sw_iret (u := u48) (v := (0 : Int32)) hx hb hr hlk hK hP hD hS d_F_movePage_55 rfl ?_
              have hw := mz_no h51
              have hz : pmove to fr (st.1, false) = pwrite (to * 16 + i) (u.1.1 (fr * 16 + i)) (u.1, false) := by rw [← hT, pmvl_s (i := i) (by omega), pmv1_go h36, pmvl_went hw]
              rw [hz, hw, hu48, hE]
              exact ⟨rfl, rfl⟩
    exact loop _ 0 u2 _ _ _ rfl (by omega) (by rw [hu2]; exact congrArg (pmvl to fr 16 0) (mz_eq hw)) (by rw [hu2]) (lv_sub hl [0, 1, 2, 3] rfl) hP hD hS
  · skip
    refine lv_iconst (v := 0) hx hb d_F_movePage_8 (by decide) ?_
    refine sw_iret (u := u2) (v := (0 : Int32)) hx hb hr hlk hK hP hD hS d_F_movePage_9 rfl ?_
    have hw := mz_no h5
    rw [show pmove to fr (st.1, false) = perase to (st.1, false) from pmvl_went hw _ _, hw]
    exact ⟨rfl, hu2⟩
