/-! 12.model: by program (wip/whole/src/gen.py) out of the bytecode and the specs. -/
theorem d_M_thrown_0 : decode b_M_thrown 0 = .ok (.aload_n 0, 1) := by decide +kernel
theorem d_M_thrown_1 : decode b_M_thrown 1 = .ok (.getfield 17, 3) := by decide +kernel
theorem d_M_thrown_4 : decode b_M_thrown 4 = .ok (.ireturn, 1) := by decide +kernel
theorem d_M_may_0 : decode b_M_may 0 = .ok (.aload_n 0, 1) := by decide +kernel
theorem d_M_may_1 : decode b_M_may 1 = .ok (.getfield 20, 3) := by decide +kernel
theorem d_M_may_4 : decode b_M_may 4 = .ok (.ifCond .eq 5, 3) := by decide +kernel
theorem d_M_may_7 : decode b_M_may 7 = .ok (.iconst 0, 1) := by decide +kernel
theorem d_M_may_8 : decode b_M_may 8 = .ok (.ireturn, 1) := by decide +kernel
theorem d_M_may_9 : decode b_M_may 9 = .ok (.aload_n 0, 1) := by decide +kernel
theorem d_M_may_10 : decode b_M_may 10 = .ok (.getfield 13, 3) := by decide +kernel
theorem d_M_may_13 : decode b_M_may 13 = .ok (.ifCond .ne 15, 3) := by decide +kernel
theorem d_M_may_16 : decode b_M_may 16 = .ok (.aload_n 0, 1) := by decide +kernel
theorem d_M_may_17 : decode b_M_may 17 = .ok (.iconst 1, 1) := by decide +kernel
theorem d_M_may_18 : decode b_M_may 18 = .ok (.putfield 20, 3) := by decide +kernel
theorem d_M_may_21 : decode b_M_may 21 = .ok (.aload_n 0, 1) := by decide +kernel
theorem d_M_may_22 : decode b_M_may 22 = .ok (.iconst (-1), 1) := by decide +kernel
theorem d_M_may_23 : decode b_M_may 23 = .ok (.putfield 13, 3) := by decide +kernel
theorem d_M_may_26 : decode b_M_may 26 = .ok (.iconst 0, 1) := by decide +kernel
theorem d_M_may_27 : decode b_M_may 27 = .ok (.ireturn, 1) := by decide +kernel
theorem d_M_may_28 : decode b_M_may 28 = .ok (.aload_n 0, 1) := by decide +kernel
theorem d_M_may_29 : decode b_M_may 29 = .ok (.dup, 1) := by decide +kernel
theorem d_M_may_30 : decode b_M_may 30 = .ok (.getfield 13, 3) := by decide +kernel
theorem d_M_may_33 : decode b_M_may 33 = .ok (.aload_n 0, 1) := by decide +kernel
theorem d_M_may_34 : decode b_M_may 34 = .ok (.getfield 13, 3) := by decide +kernel
theorem d_M_may_37 : decode b_M_may 37 = .ok (.ifCond .le 7, 3) := by decide +kernel
theorem d_M_may_40 : decode b_M_may 40 = .ok (.iconst 1, 1) := by decide +kernel
theorem d_M_may_41 : decode b_M_may 41 = .ok (.goto 4, 3) := by decide +kernel
theorem d_M_may_44 : decode b_M_may 44 = .ok (.iconst 0, 1) := by decide +kernel
theorem d_M_may_45 : decode b_M_may 45 = .ok (.isub, 1) := by decide +kernel
theorem d_M_may_46 : decode b_M_may 46 = .ok (.putfield 13, 3) := by decide +kernel
theorem d_M_may_49 : decode b_M_may 49 = .ok (.aload_n 0, 1) := by decide +kernel
theorem d_M_may_50 : decode b_M_may 50 = .ok (.dup, 1) := by decide +kernel
theorem d_M_may_51 : decode b_M_may 51 = .ok (.getfield 24, 3) := by decide +kernel
theorem d_M_may_54 : decode b_M_may 54 = .ok (.iconst 1, 1) := by decide +kernel
theorem d_M_may_55 : decode b_M_may 55 = .ok (.iadd, 1) := by decide +kernel
theorem d_M_may_56 : decode b_M_may 56 = .ok (.putfield 24, 3) := by decide +kernel
theorem d_M_may_59 : decode b_M_may 59 = .ok (.iconst 1, 1) := by decide +kernel
theorem d_M_may_60 : decode b_M_may 60 = .ok (.ireturn, 1) := by decide +kernel
theorem d_M_erase_0 : decode b_M_erase 0 = .ok (.aload_n 0, 1) := by decide +kernel
theorem d_M_erase_1 : decode b_M_erase 1 = .ok (.invokevirtual 27, 3) := by decide +kernel
theorem d_M_erase_4 : decode b_M_erase 4 = .ok (.ifCond .ne 4, 3) := by decide +kernel
theorem d_M_erase_7 : decode b_M_erase 7 = .ok (.return_, 1) := by decide +kernel
theorem d_M_erase_8 : decode b_M_erase 8 = .ok (.bipush 16, 2) := by decide +kernel
theorem d_M_erase_10 : decode b_M_erase 10 = .ok (.iload_n 1, 1) := by decide +kernel
theorem d_M_erase_11 : decode b_M_erase 11 = .ok (.imul, 1) := by decide +kernel
theorem d_M_erase_12 : decode b_M_erase 12 = .ok (.istore_n 2, 1) := by decide +kernel
theorem d_M_erase_13 : decode b_M_erase 13 = .ok (.iload_n 2, 1) := by decide +kernel
theorem d_M_erase_14 : decode b_M_erase 14 = .ok (.bipush 16, 2) := by decide +kernel
theorem d_M_erase_16 : decode b_M_erase 16 = .ok (.iload_n 1, 1) := by decide +kernel
theorem d_M_erase_17 : decode b_M_erase 17 = .ok (.imul, 1) := by decide +kernel
theorem d_M_erase_18 : decode b_M_erase 18 = .ok (.bipush 16, 2) := by decide +kernel
theorem d_M_erase_20 : decode b_M_erase 20 = .ok (.iadd, 1) := by decide +kernel
theorem d_M_erase_21 : decode b_M_erase 21 = .ok (.if_icmp .ge 18, 3) := by decide +kernel
theorem d_M_erase_24 : decode b_M_erase 24 = .ok (.aload_n 0, 1) := by decide +kernel
theorem d_M_erase_25 : decode b_M_erase 25 = .ok (.getfield 7, 3) := by decide +kernel
theorem d_M_erase_28 : decode b_M_erase 28 = .ok (.iload_n 2, 1) := by decide +kernel
theorem d_M_erase_29 : decode b_M_erase 29 = .ok (.sipush 255, 3) := by decide +kernel
theorem d_M_erase_32 : decode b_M_erase 32 = .ok (.iastore, 1) := by decide +kernel
theorem d_M_erase_33 : decode b_M_erase 33 = .ok (.iinc 2 1, 3) := by decide +kernel
theorem d_M_erase_36 : decode b_M_erase 36 = .ok (.goto (-23), 3) := by decide +kernel
theorem d_M_erase_39 : decode b_M_erase 39 = .ok (.return_, 1) := by decide +kernel
theorem d_M_write_0 : decode b_M_write 0 = .ok (.aload_n 0, 1) := by decide +kernel
theorem d_M_write_1 : decode b_M_write 1 = .ok (.invokevirtual 27, 3) := by decide +kernel
theorem d_M_write_4 : decode b_M_write 4 = .ok (.ifCond .ne 4, 3) := by decide +kernel
theorem d_M_write_7 : decode b_M_write 7 = .ok (.return_, 1) := by decide +kernel
theorem d_M_write_8 : decode b_M_write 8 = .ok (.aload_n 0, 1) := by decide +kernel
theorem d_M_write_9 : decode b_M_write 9 = .ok (.getfield 7, 3) := by decide +kernel
theorem d_M_write_12 : decode b_M_write 12 = .ok (.iload_n 1, 1) := by decide +kernel
theorem d_M_write_13 : decode b_M_write 13 = .ok (.dup2, 1) := by decide +kernel
theorem d_M_write_14 : decode b_M_write 14 = .ok (.iaload, 1) := by decide +kernel
theorem d_M_write_15 : decode b_M_write 15 = .ok (.iload_n 2, 1) := by decide +kernel
theorem d_M_write_16 : decode b_M_write 16 = .ok (.iand, 1) := by decide +kernel
theorem d_M_write_17 : decode b_M_write 17 = .ok (.iastore, 1) := by decide +kernel
theorem d_M_write_18 : decode b_M_write 18 = .ok (.aload_n 0, 1) := by decide +kernel
theorem d_M_write_19 : decode b_M_write 19 = .ok (.dup, 1) := by decide +kernel
theorem d_M_write_20 : decode b_M_write 20 = .ok (.getfield 31, 3) := by decide +kernel
theorem d_M_write_23 : decode b_M_write 23 = .ok (.iconst 1, 1) := by decide +kernel
theorem d_M_write_24 : decode b_M_write 24 = .ok (.iadd, 1) := by decide +kernel
theorem d_M_write_25 : decode b_M_write 25 = .ok (.putfield 31, 3) := by decide +kernel
theorem d_M_write_28 : decode b_M_write 28 = .ok (.return_, 1) := by decide +kernel
theorem d_M_lose_0 : decode b_M_lose 0 = .ok (.aload_n 0, 1) := by decide +kernel
theorem d_M_lose_1 : decode b_M_lose 1 = .ok (.iconst 0, 1) := by decide +kernel
theorem d_M_lose_2 : decode b_M_lose 2 = .ok (.putfield 34, 3) := by decide +kernel
theorem d_M_lose_5 : decode b_M_lose 5 = .ok (.aload_n 0, 1) := by decide +kernel
theorem d_M_lose_6 : decode b_M_lose 6 = .ok (.iconst 0, 1) := by decide +kernel
theorem d_M_lose_7 : decode b_M_lose 7 = .ok (.putfield 37, 3) := by decide +kernel
theorem d_M_lose_10 : decode b_M_lose 10 = .ok (.aload_n 0, 1) := by decide +kernel
theorem d_M_lose_11 : decode b_M_lose 11 = .ok (.iconst 0, 1) := by decide +kernel
theorem d_M_lose_12 : decode b_M_lose 12 = .ok (.putfield 40, 3) := by decide +kernel
theorem d_M_lose_15 : decode b_M_lose 15 = .ok (.aload_n 0, 1) := by decide +kernel
theorem d_M_lose_16 : decode b_M_lose 16 = .ok (.iconst 0, 1) := by decide +kernel
theorem d_M_lose_17 : decode b_M_lose 17 = .ok (.putfield 43, 3) := by decide +kernel
theorem d_M_lose_20 : decode b_M_lose 20 = .ok (.return_, 1) := by decide +kernel
theorem d_M_answer_0 : decode b_M_answer 0 = .ok (.aload_n 0, 1) := by decide +kernel
theorem d_M_answer_1 : decode b_M_answer 1 = .ok (.getfield 20, 3) := by decide +kernel
theorem d_M_answer_4 : decode b_M_answer 4 = .ok (.ifCond .ne 5, 3) := by decide +kernel
theorem d_M_answer_7 : decode b_M_answer 7 = .ok (.iload_n 1, 1) := by decide +kernel
theorem d_M_answer_8 : decode b_M_answer 8 = .ok (.ireturn, 1) := by decide +kernel
theorem d_M_answer_9 : decode b_M_answer 9 = .ok (.aload_n 0, 1) := by decide +kernel
theorem d_M_answer_10 : decode b_M_answer 10 = .ok (.invokevirtual 46, 3) := by decide +kernel
theorem d_M_answer_13 : decode b_M_answer 13 = .ok (.bipush (-2), 2) := by decide +kernel
theorem d_M_answer_15 : decode b_M_answer 15 = .ok (.ireturn, 1) := by decide +kernel
theorem d_M_sum_0 : decode b_M_sum 0 = .ok (.bipush 31, 2) := by decide +kernel
theorem d_M_sum_2 : decode b_M_sum 2 = .ok (.sipush 217, 3) := by decide +kernel
theorem d_M_sum_5 : decode b_M_sum 5 = .ok (.iload_n 2, 1) := by decide +kernel
theorem d_M_sum_6 : decode b_M_sum 6 = .ok (.iadd, 1) := by decide +kernel
theorem d_M_sum_7 : decode b_M_sum 7 = .ok (.imul, 1) := by decide +kernel
theorem d_M_sum_8 : decode b_M_sum 8 = .ok (.iload_n 3, 1) := by decide +kernel
theorem d_M_sum_9 : decode b_M_sum 9 = .ok (.iadd, 1) := by decide +kernel
theorem d_M_sum_10 : decode b_M_sum 10 = .ok (.sipush 255, 3) := by decide +kernel
theorem d_M_sum_13 : decode b_M_sum 13 = .ok (.iand, 1) := by decide +kernel
theorem d_M_sum_14 : decode b_M_sum 14 = .ok (.istore 4, 2) := by decide +kernel
theorem d_M_sum_16 : decode b_M_sum 16 = .ok (.iconst 4, 1) := by decide +kernel
theorem d_M_sum_17 : decode b_M_sum 17 = .ok (.istore 5, 2) := by decide +kernel
theorem d_M_sum_19 : decode b_M_sum 19 = .ok (.iload 5, 2) := by decide +kernel
theorem d_M_sum_21 : decode b_M_sum 21 = .ok (.iload_n 3, 1) := by decide +kernel
theorem d_M_sum_22 : decode b_M_sum 22 = .ok (.if_icmp .ge 30, 3) := by decide +kernel
theorem d_M_sum_25 : decode b_M_sum 25 = .ok (.bipush 31, 2) := by decide +kernel
theorem d_M_sum_27 : decode b_M_sum 27 = .ok (.iload 4, 2) := by decide +kernel
theorem d_M_sum_29 : decode b_M_sum 29 = .ok (.imul, 1) := by decide +kernel
theorem d_M_sum_30 : decode b_M_sum 30 = .ok (.aload_n 0, 1) := by decide +kernel
theorem d_M_sum_31 : decode b_M_sum 31 = .ok (.getfield 7, 3) := by decide +kernel
theorem d_M_sum_34 : decode b_M_sum 34 = .ok (.iload_n 1, 1) := by decide +kernel
theorem d_M_sum_35 : decode b_M_sum 35 = .ok (.iload 5, 2) := by decide +kernel
theorem d_M_sum_37 : decode b_M_sum 37 = .ok (.iadd, 1) := by decide +kernel
theorem d_M_sum_38 : decode b_M_sum 38 = .ok (.iaload, 1) := by decide +kernel
theorem d_M_sum_39 : decode b_M_sum 39 = .ok (.iadd, 1) := by decide +kernel
theorem d_M_sum_40 : decode b_M_sum 40 = .ok (.sipush 255, 3) := by decide +kernel
theorem d_M_sum_43 : decode b_M_sum 43 = .ok (.iand, 1) := by decide +kernel
theorem d_M_sum_44 : decode b_M_sum 44 = .ok (.istore 4, 2) := by decide +kernel
theorem d_M_sum_46 : decode b_M_sum 46 = .ok (.iinc 5 1, 3) := by decide +kernel
theorem d_M_sum_49 : decode b_M_sum 49 = .ok (.goto (-30), 3) := by decide +kernel
theorem d_M_sum_52 : decode b_M_sum 52 = .ok (.iload 4, 2) := by decide +kernel
theorem d_M_sum_54 : decode b_M_sum 54 = .ok (.ireturn, 1) := by decide +kernel
theorem d_M_isVersion_0 : decode b_M_isVersion 0 = .ok (.iload_n 0, 1) := by decide +kernel
theorem d_M_isVersion_1 : decode b_M_isVersion 1 = .ok (.iconst 1, 1) := by decide +kernel
theorem d_M_isVersion_2 : decode b_M_isVersion 2 = .ok (.if_icmp .lt 14, 3) := by decide +kernel
theorem d_M_isVersion_5 : decode b_M_isVersion 5 = .ok (.iload_n 0, 1) := by decide +kernel
theorem d_M_isVersion_6 : decode b_M_isVersion 6 = .ok (.sipush 250, 3) := by decide +kernel
theorem d_M_isVersion_9 : decode b_M_isVersion 9 = .ok (.if_icmp .gt 7, 3) := by decide +kernel
theorem d_M_isVersion_12 : decode b_M_isVersion 12 = .ok (.iconst 1, 1) := by decide +kernel
theorem d_M_isVersion_13 : decode b_M_isVersion 13 = .ok (.goto 4, 3) := by decide +kernel
theorem d_M_isVersion_16 : decode b_M_isVersion 16 = .ok (.iconst 0, 1) := by decide +kernel
theorem d_M_isVersion_17 : decode b_M_isVersion 17 = .ok (.ireturn, 1) := by decide +kernel
theorem d_M_isLength_0 : decode b_M_isLength 0 = .ok (.iload_n 0, 1) := by decide +kernel
theorem d_M_isLength_1 : decode b_M_isLength 1 = .ok (.bipush 8, 2) := by decide +kernel
theorem d_M_isLength_3 : decode b_M_isLength 3 = .ok (.if_icmp .lt 13, 3) := by decide +kernel
theorem d_M_isLength_6 : decode b_M_isLength 6 = .ok (.iload_n 0, 1) := by decide +kernel
theorem d_M_isLength_7 : decode b_M_isLength 7 = .ok (.bipush 96, 2) := by decide +kernel
theorem d_M_isLength_9 : decode b_M_isLength 9 = .ok (.if_icmp .gt 7, 3) := by decide +kernel
theorem d_M_isLength_12 : decode b_M_isLength 12 = .ok (.iconst 1, 1) := by decide +kernel
theorem d_M_isLength_13 : decode b_M_isLength 13 = .ok (.goto 4, 3) := by decide +kernel
theorem d_M_isLength_16 : decode b_M_isLength 16 = .ok (.iconst 0, 1) := by decide +kernel
theorem d_M_isLength_17 : decode b_M_isLength 17 = .ok (.ireturn, 1) := by decide +kernel
theorem d_M_image_0 : decode b_M_image 0 = .ok (.aload_n 0, 1) := by decide +kernel
theorem d_M_image_1 : decode b_M_image 1 = .ok (.getfield 7, 3) := by decide +kernel
theorem d_M_image_4 : decode b_M_image 4 = .ok (.iload_n 1, 1) := by decide +kernel
theorem d_M_image_5 : decode b_M_image 5 = .ok (.iconst 1, 1) := by decide +kernel
theorem d_M_image_6 : decode b_M_image 6 = .ok (.iadd, 1) := by decide +kernel
theorem d_M_image_7 : decode b_M_image 7 = .ok (.iaload, 1) := by decide +kernel
theorem d_M_image_8 : decode b_M_image 8 = .ok (.istore_n 2, 1) := by decide +kernel
theorem d_M_image_9 : decode b_M_image 9 = .ok (.aload_n 0, 1) := by decide +kernel
theorem d_M_image_10 : decode b_M_image 10 = .ok (.getfield 7, 3) := by decide +kernel
theorem d_M_image_13 : decode b_M_image 13 = .ok (.iload_n 1, 1) := by decide +kernel
theorem d_M_image_14 : decode b_M_image 14 = .ok (.iconst 2, 1) := by decide +kernel
theorem d_M_image_15 : decode b_M_image 15 = .ok (.iadd, 1) := by decide +kernel
theorem d_M_image_16 : decode b_M_image 16 = .ok (.iaload, 1) := by decide +kernel
theorem d_M_image_17 : decode b_M_image 17 = .ok (.istore_n 3, 1) := by decide +kernel
theorem d_M_image_18 : decode b_M_image 18 = .ok (.aload_n 0, 1) := by decide +kernel
theorem d_M_image_19 : decode b_M_image 19 = .ok (.getfield 7, 3) := by decide +kernel
theorem d_M_image_22 : decode b_M_image 22 = .ok (.iload_n 1, 1) := by decide +kernel
theorem d_M_image_23 : decode b_M_image 23 = .ok (.iaload, 1) := by decide +kernel
theorem d_M_image_24 : decode b_M_image 24 = .ok (.sipush 165, 3) := by decide +kernel
theorem d_M_image_27 : decode b_M_image 27 = .ok (.if_icmp .ne 39, 3) := by decide +kernel
theorem d_M_image_30 : decode b_M_image 30 = .ok (.iload_n 2, 1) := by decide +kernel
theorem d_M_image_31 : decode b_M_image 31 = .ok (.invokestatic 49, 3) := by decide +kernel
theorem d_M_image_34 : decode b_M_image 34 = .ok (.ifCond .eq 32, 3) := by decide +kernel
theorem d_M_image_37 : decode b_M_image 37 = .ok (.iload_n 3, 1) := by decide +kernel
theorem d_M_image_38 : decode b_M_image 38 = .ok (.invokestatic 53, 3) := by decide +kernel
theorem d_M_image_41 : decode b_M_image 41 = .ok (.ifCond .eq 25, 3) := by decide +kernel
theorem d_M_image_44 : decode b_M_image 44 = .ok (.aload_n 0, 1) := by decide +kernel
theorem d_M_image_45 : decode b_M_image 45 = .ok (.getfield 7, 3) := by decide +kernel
theorem d_M_image_48 : decode b_M_image 48 = .ok (.iload_n 1, 1) := by decide +kernel
theorem d_M_image_49 : decode b_M_image 49 = .ok (.iconst 3, 1) := by decide +kernel
theorem d_M_image_50 : decode b_M_image 50 = .ok (.iadd, 1) := by decide +kernel
theorem d_M_image_51 : decode b_M_image 51 = .ok (.iaload, 1) := by decide +kernel
theorem d_M_image_52 : decode b_M_image 52 = .ok (.aload_n 0, 1) := by decide +kernel
theorem d_M_image_53 : decode b_M_image 53 = .ok (.iload_n 1, 1) := by decide +kernel
theorem d_M_image_54 : decode b_M_image 54 = .ok (.iload_n 2, 1) := by decide +kernel
theorem d_M_image_55 : decode b_M_image 55 = .ok (.iload_n 3, 1) := by decide +kernel
theorem d_M_image_56 : decode b_M_image 56 = .ok (.invokevirtual 56, 3) := by decide +kernel
theorem d_M_image_59 : decode b_M_image 59 = .ok (.if_icmp .ne 7, 3) := by decide +kernel
theorem d_M_image_62 : decode b_M_image 62 = .ok (.iconst 1, 1) := by decide +kernel
theorem d_M_image_63 : decode b_M_image 63 = .ok (.goto 4, 3) := by decide +kernel
theorem d_M_image_66 : decode b_M_image 66 = .ok (.iconst 0, 1) := by decide +kernel
theorem d_M_image_67 : decode b_M_image 67 = .ok (.istore 4, 2) := by decide +kernel
theorem d_M_image_69 : decode b_M_image 69 = .ok (.iload 4, 2) := by decide +kernel
theorem d_M_image_71 : decode b_M_image 71 = .ok (.ifCond .eq 7, 3) := by decide +kernel
theorem d_M_image_74 : decode b_M_image 74 = .ok (.iload_n 2, 1) := by decide +kernel
theorem d_M_image_75 : decode b_M_image 75 = .ok (.goto 4, 3) := by decide +kernel
theorem d_M_image_78 : decode b_M_image 78 = .ok (.iconst 0, 1) := by decide +kernel
theorem d_M_image_79 : decode b_M_image 79 = .ok (.ireturn, 1) := by decide +kernel
theorem d_M_isDone_0 : decode b_M_isDone 0 = .ok (.aload_n 0, 1) := by decide +kernel
theorem d_M_isDone_1 : decode b_M_isDone 1 = .ok (.getfield 7, 3) := by decide +kernel
theorem d_M_isDone_4 : decode b_M_isDone 4 = .ok (.iload_n 1, 1) := by decide +kernel
theorem d_M_isDone_5 : decode b_M_isDone 5 = .ok (.iconst 4, 1) := by decide +kernel
theorem d_M_isDone_6 : decode b_M_isDone 6 = .ok (.iadd, 1) := by decide +kernel
theorem d_M_isDone_7 : decode b_M_isDone 7 = .ok (.iload_n 2, 1) := by decide +kernel
theorem d_M_isDone_8 : decode b_M_isDone 8 = .ok (.bipush 8, 2) := by decide +kernel
theorem d_M_isDone_10 : decode b_M_isDone 10 = .ok (.idiv, 1) := by decide +kernel
theorem d_M_isDone_11 : decode b_M_isDone 11 = .ok (.iadd, 1) := by decide +kernel
theorem d_M_isDone_12 : decode b_M_isDone 12 = .ok (.iaload, 1) := by decide +kernel
theorem d_M_isDone_13 : decode b_M_isDone 13 = .ok (.iload_n 2, 1) := by decide +kernel
theorem d_M_isDone_14 : decode b_M_isDone 14 = .ok (.bipush 8, 2) := by decide +kernel
theorem d_M_isDone_16 : decode b_M_isDone 16 = .ok (.irem, 1) := by decide +kernel
theorem d_M_isDone_17 : decode b_M_isDone 17 = .ok (.ishr, 1) := by decide +kernel
theorem d_M_isDone_18 : decode b_M_isDone 18 = .ok (.iconst 1, 1) := by decide +kernel
theorem d_M_isDone_19 : decode b_M_isDone 19 = .ok (.iand, 1) := by decide +kernel
theorem d_M_isDone_20 : decode b_M_isDone 20 = .ok (.ifCond .ne 7, 3) := by decide +kernel
theorem d_M_isDone_23 : decode b_M_isDone 23 = .ok (.iconst 1, 1) := by decide +kernel
theorem d_M_isDone_24 : decode b_M_isDone 24 = .ok (.goto 4, 3) := by decide +kernel
theorem d_M_isDone_27 : decode b_M_isDone 27 = .ok (.iconst 0, 1) := by decide +kernel
theorem d_M_isDone_28 : decode b_M_isDone 28 = .ok (.ireturn, 1) := by decide +kernel
theorem d_M_stepsDone_0 : decode b_M_stepsDone 0 = .ok (.iconst 0, 1) := by decide +kernel
theorem d_M_stepsDone_1 : decode b_M_stepsDone 1 = .ok (.istore_n 2, 1) := by decide +kernel
theorem d_M_stepsDone_2 : decode b_M_stepsDone 2 = .ok (.iconst 0, 1) := by decide +kernel
theorem d_M_stepsDone_3 : decode b_M_stepsDone 3 = .ok (.istore_n 3, 1) := by decide +kernel
theorem d_M_stepsDone_4 : decode b_M_stepsDone 4 = .ok (.iload_n 3, 1) := by decide +kernel
theorem d_M_stepsDone_5 : decode b_M_stepsDone 5 = .ok (.bipush 18, 2) := by decide +kernel
theorem d_M_stepsDone_7 : decode b_M_stepsDone 7 = .ok (.if_icmp .ge 26, 3) := by decide +kernel
theorem d_M_stepsDone_10 : decode b_M_stepsDone 10 = .ok (.iload_n 2, 1) := by decide +kernel
theorem d_M_stepsDone_11 : decode b_M_stepsDone 11 = .ok (.aload_n 0, 1) := by decide +kernel
theorem d_M_stepsDone_12 : decode b_M_stepsDone 12 = .ok (.iload_n 1, 1) := by decide +kernel
theorem d_M_stepsDone_13 : decode b_M_stepsDone 13 = .ok (.iload_n 3, 1) := by decide +kernel
theorem d_M_stepsDone_14 : decode b_M_stepsDone 14 = .ok (.invokevirtual 61, 3) := by decide +kernel
theorem d_M_stepsDone_17 : decode b_M_stepsDone 17 = .ok (.ifCond .eq 7, 3) := by decide +kernel
theorem d_M_stepsDone_20 : decode b_M_stepsDone 20 = .ok (.iconst 1, 1) := by decide +kernel
theorem d_M_stepsDone_21 : decode b_M_stepsDone 21 = .ok (.goto 4, 3) := by decide +kernel
theorem d_M_stepsDone_24 : decode b_M_stepsDone 24 = .ok (.iconst 0, 1) := by decide +kernel
theorem d_M_stepsDone_25 : decode b_M_stepsDone 25 = .ok (.iadd, 1) := by decide +kernel
theorem d_M_stepsDone_26 : decode b_M_stepsDone 26 = .ok (.istore_n 2, 1) := by decide +kernel
theorem d_M_stepsDone_27 : decode b_M_stepsDone 27 = .ok (.iinc 3 1, 3) := by decide +kernel
theorem d_M_stepsDone_30 : decode b_M_stepsDone 30 = .ok (.goto (-26), 3) := by decide +kernel
theorem d_M_stepsDone_33 : decode b_M_stepsDone 33 = .ok (.iload_n 2, 1) := by decide +kernel
theorem d_M_stepsDone_34 : decode b_M_stepsDone 34 = .ok (.ireturn, 1) := by decide +kernel
theorem d_M_move_0 : decode b_M_move 0 = .ok (.aload_n 0, 1) := by decide +kernel
theorem d_M_move_1 : decode b_M_move 1 = .ok (.iload_n 1, 1) := by decide +kernel
theorem d_M_move_2 : decode b_M_move 2 = .ok (.invokevirtual 65, 3) := by decide +kernel
theorem d_M_move_5 : decode b_M_move 5 = .ok (.iconst 0, 1) := by decide +kernel
theorem d_M_move_6 : decode b_M_move 6 = .ok (.istore_n 3, 1) := by decide +kernel
theorem d_M_move_7 : decode b_M_move 7 = .ok (.iload_n 3, 1) := by decide +kernel
theorem d_M_move_8 : decode b_M_move 8 = .ok (.bipush 16, 2) := by decide +kernel
theorem d_M_move_10 : decode b_M_move 10 = .ok (.if_icmp .ge 42, 3) := by decide +kernel
theorem d_M_move_13 : decode b_M_move 13 = .ok (.aload_n 0, 1) := by decide +kernel
theorem d_M_move_14 : decode b_M_move 14 = .ok (.getfield 7, 3) := by decide +kernel
theorem d_M_move_17 : decode b_M_move 17 = .ok (.bipush 16, 2) := by decide +kernel
theorem d_M_move_19 : decode b_M_move 19 = .ok (.iload_n 2, 1) := by decide +kernel
theorem d_M_move_20 : decode b_M_move 20 = .ok (.imul, 1) := by decide +kernel
theorem d_M_move_21 : decode b_M_move 21 = .ok (.iload_n 3, 1) := by decide +kernel
theorem d_M_move_22 : decode b_M_move 22 = .ok (.iadd, 1) := by decide +kernel
theorem d_M_move_23 : decode b_M_move 23 = .ok (.iaload, 1) := by decide +kernel
theorem d_M_move_24 : decode b_M_move 24 = .ok (.istore 4, 2) := by decide +kernel
theorem d_M_move_26 : decode b_M_move 26 = .ok (.iload 4, 2) := by decide +kernel
theorem d_M_move_28 : decode b_M_move 28 = .ok (.sipush 255, 3) := by decide +kernel
theorem d_M_move_31 : decode b_M_move 31 = .ok (.if_icmp .eq 15, 3) := by decide +kernel
theorem d_M_move_34 : decode b_M_move 34 = .ok (.aload_n 0, 1) := by decide +kernel
theorem d_M_move_35 : decode b_M_move 35 = .ok (.bipush 16, 2) := by decide +kernel
theorem d_M_move_37 : decode b_M_move 37 = .ok (.iload_n 1, 1) := by decide +kernel
theorem d_M_move_38 : decode b_M_move 38 = .ok (.imul, 1) := by decide +kernel
theorem d_M_move_39 : decode b_M_move 39 = .ok (.iload_n 3, 1) := by decide +kernel
theorem d_M_move_40 : decode b_M_move 40 = .ok (.iadd, 1) := by decide +kernel
theorem d_M_move_41 : decode b_M_move 41 = .ok (.iload 4, 2) := by decide +kernel
theorem d_M_move_43 : decode b_M_move 43 = .ok (.invokevirtual 69, 3) := by decide +kernel
theorem d_M_move_46 : decode b_M_move 46 = .ok (.iinc 3 1, 3) := by decide +kernel
theorem d_M_move_49 : decode b_M_move 49 = .ok (.goto (-42), 3) := by decide +kernel
theorem d_M_move_52 : decode b_M_move 52 = .ok (.return_, 1) := by decide +kernel
theorem d_M_change_0 : decode b_M_change 0 = .ok (.iconst 0, 1) := by decide +kernel
theorem d_M_change_1 : decode b_M_change 1 = .ok (.istore_n 2, 1) := by decide +kernel
theorem d_M_change_2 : decode b_M_change 2 = .ok (.iload_n 2, 1) := by decide +kernel
theorem d_M_change_3 : decode b_M_change 3 = .ok (.bipush 18, 2) := by decide +kernel
theorem d_M_change_5 : decode b_M_change 5 = .ok (.if_icmp .ge 96, 3) := by decide +kernel
theorem d_M_change_8 : decode b_M_change 8 = .ok (.iload_n 2, 1) := by decide +kernel
theorem d_M_change_9 : decode b_M_change 9 = .ok (.iconst 3, 1) := by decide +kernel
theorem d_M_change_10 : decode b_M_change 10 = .ok (.idiv, 1) := by decide +kernel
theorem d_M_change_11 : decode b_M_change 11 = .ok (.istore_n 3, 1) := by decide +kernel
theorem d_M_change_12 : decode b_M_change 12 = .ok (.aload_n 0, 1) := by decide +kernel
theorem d_M_change_13 : decode b_M_change 13 = .ok (.iload_n 1, 1) := by decide +kernel
theorem d_M_change_14 : decode b_M_change 14 = .ok (.iload_n 2, 1) := by decide +kernel
theorem d_M_change_15 : decode b_M_change 15 = .ok (.invokevirtual 61, 3) := by decide +kernel
theorem d_M_change_18 : decode b_M_change 18 = .ok (.ifCond .ne 77, 3) := by decide +kernel
theorem d_M_change_21 : decode b_M_change 21 = .ok (.aload_n 0, 1) := by decide +kernel
theorem d_M_change_22 : decode b_M_change 22 = .ok (.getfield 20, 3) := by decide +kernel
theorem d_M_change_25 : decode b_M_change 25 = .ok (.ifCond .ne 70, 3) := by decide +kernel
theorem d_M_change_28 : decode b_M_change 28 = .ok (.iload_n 2, 1) := by decide +kernel
theorem d_M_change_29 : decode b_M_change 29 = .ok (.iconst 3, 1) := by decide +kernel
theorem d_M_change_30 : decode b_M_change 30 = .ok (.irem, 1) := by decide +kernel
theorem d_M_change_31 : decode b_M_change 31 = .ok (.ifCond .ne 13, 3) := by decide +kernel
theorem d_M_change_34 : decode b_M_change 34 = .ok (.aload_n 0, 1) := by decide +kernel
theorem d_M_change_35 : decode b_M_change 35 = .ok (.bipush 12, 2) := by decide +kernel
theorem d_M_change_37 : decode b_M_change 37 = .ok (.iload_n 3, 1) := by decide +kernel
theorem d_M_change_38 : decode b_M_change 38 = .ok (.invokevirtual 73, 3) := by decide +kernel
theorem d_M_change_41 : decode b_M_change 41 = .ok (.goto 32, 3) := by decide +kernel
theorem d_M_change_44 : decode b_M_change 44 = .ok (.iload_n 2, 1) := by decide +kernel
theorem d_M_change_45 : decode b_M_change 45 = .ok (.iconst 3, 1) := by decide +kernel
theorem d_M_change_46 : decode b_M_change 46 = .ok (.irem, 1) := by decide +kernel
theorem d_M_change_47 : decode b_M_change 47 = .ok (.iconst 1, 1) := by decide +kernel
theorem d_M_change_48 : decode b_M_change 48 = .ok (.if_icmp .ne 15, 3) := by decide +kernel
theorem d_M_change_51 : decode b_M_change 51 = .ok (.aload_n 0, 1) := by decide +kernel
theorem d_M_change_52 : decode b_M_change 52 = .ok (.iload_n 3, 1) := by decide +kernel
theorem d_M_change_53 : decode b_M_change 53 = .ok (.bipush 6, 2) := by decide +kernel
theorem d_M_change_55 : decode b_M_change 55 = .ok (.iload_n 3, 1) := by decide +kernel
theorem d_M_change_56 : decode b_M_change 56 = .ok (.iadd, 1) := by decide +kernel
theorem d_M_change_57 : decode b_M_change 57 = .ok (.invokevirtual 73, 3) := by decide +kernel
theorem d_M_change_60 : decode b_M_change 60 = .ok (.goto 13, 3) := by decide +kernel
theorem d_M_change_63 : decode b_M_change 63 = .ok (.aload_n 0, 1) := by decide +kernel
theorem d_M_change_64 : decode b_M_change 64 = .ok (.bipush 6, 2) := by decide +kernel
theorem d_M_change_66 : decode b_M_change 66 = .ok (.iload_n 3, 1) := by decide +kernel
theorem d_M_change_67 : decode b_M_change 67 = .ok (.iadd, 1) := by decide +kernel
theorem d_M_change_68 : decode b_M_change 68 = .ok (.bipush 12, 2) := by decide +kernel
theorem d_M_change_70 : decode b_M_change 70 = .ok (.invokevirtual 73, 3) := by decide +kernel
theorem d_M_change_73 : decode b_M_change 73 = .ok (.aload_n 0, 1) := by decide +kernel
theorem d_M_change_74 : decode b_M_change 74 = .ok (.iload_n 1, 1) := by decide +kernel
theorem d_M_change_75 : decode b_M_change 75 = .ok (.iconst 4, 1) := by decide +kernel
theorem d_M_change_76 : decode b_M_change 76 = .ok (.iadd, 1) := by decide +kernel
theorem d_M_change_77 : decode b_M_change 77 = .ok (.iload_n 2, 1) := by decide +kernel
theorem d_M_change_78 : decode b_M_change 78 = .ok (.bipush 8, 2) := by decide +kernel
theorem d_M_change_80 : decode b_M_change 80 = .ok (.idiv, 1) := by decide +kernel
theorem d_M_change_81 : decode b_M_change 81 = .ok (.iadd, 1) := by decide +kernel
theorem d_M_change_82 : decode b_M_change 82 = .ok (.sipush 255, 3) := by decide +kernel
theorem d_M_change_85 : decode b_M_change 85 = .ok (.iconst 1, 1) := by decide +kernel
theorem d_M_change_86 : decode b_M_change 86 = .ok (.iload_n 2, 1) := by decide +kernel
theorem d_M_change_87 : decode b_M_change 87 = .ok (.bipush 8, 2) := by decide +kernel
theorem d_M_change_89 : decode b_M_change 89 = .ok (.irem, 1) := by decide +kernel
theorem d_M_change_90 : decode b_M_change 90 = .ok (.ishl, 1) := by decide +kernel
theorem d_M_change_91 : decode b_M_change 91 = .ok (.isub, 1) := by decide +kernel
theorem d_M_change_92 : decode b_M_change 92 = .ok (.invokevirtual 69, 3) := by decide +kernel
theorem d_M_change_95 : decode b_M_change 95 = .ok (.iinc 2 1, 3) := by decide +kernel
theorem d_M_change_98 : decode b_M_change 98 = .ok (.goto (-96), 3) := by decide +kernel
theorem d_M_change_101 : decode b_M_change 101 = .ok (.return_, 1) := by decide +kernel
theorem d_M_asks_0 : decode b_M_asks 0 = .ok (.aload_n 0, 1) := by decide +kernel
theorem d_M_asks_1 : decode b_M_asks 1 = .ok (.getfield 7, 3) := by decide +kernel
theorem d_M_asks_4 : decode b_M_asks 4 = .ok (.iload_n 1, 1) := by decide +kernel
theorem d_M_asks_5 : decode b_M_asks 5 = .ok (.iaload, 1) := by decide +kernel
theorem d_M_asks_6 : decode b_M_asks 6 = .ok (.sipush 255, 3) := by decide +kernel
theorem d_M_asks_9 : decode b_M_asks 9 = .ok (.if_icmp .eq 7, 3) := by decide +kernel
theorem d_M_asks_12 : decode b_M_asks 12 = .ok (.iconst 1, 1) := by decide +kernel
theorem d_M_asks_13 : decode b_M_asks 13 = .ok (.goto 4, 3) := by decide +kernel
theorem d_M_asks_16 : decode b_M_asks 16 = .ok (.iconst 0, 1) := by decide +kernel
theorem d_M_asks_17 : decode b_M_asks 17 = .ok (.ireturn, 1) := by decide +kernel
theorem d_M_isSet_0 : decode b_M_isSet 0 = .ok (.aload_n 0, 1) := by decide +kernel
theorem d_M_isSet_1 : decode b_M_isSet 1 = .ok (.sipush 208, 3) := by decide +kernel
theorem d_M_isSet_4 : decode b_M_isSet 4 = .ok (.invokevirtual 76, 3) := by decide +kernel
theorem d_M_isSet_7 : decode b_M_isSet 7 = .ok (.ifCond .eq 20, 3) := by decide +kernel
theorem d_M_isSet_10 : decode b_M_isSet 10 = .ok (.aload_n 0, 1) := by decide +kernel
theorem d_M_isSet_11 : decode b_M_isSet 11 = .ok (.getfield 7, 3) := by decide +kernel
theorem d_M_isSet_14 : decode b_M_isSet 14 = .ok (.sipush 208, 3) := by decide +kernel
theorem d_M_isSet_17 : decode b_M_isSet 17 = .ok (.iload_n 1, 1) := by decide +kernel
theorem d_M_isSet_18 : decode b_M_isSet 18 = .ok (.iadd, 1) := by decide +kernel
theorem d_M_isSet_19 : decode b_M_isSet 19 = .ok (.iaload, 1) := by decide +kernel
theorem d_M_isSet_20 : decode b_M_isSet 20 = .ok (.ifCond .ne 7, 3) := by decide +kernel
theorem d_M_isSet_23 : decode b_M_isSet 23 = .ok (.iconst 1, 1) := by decide +kernel
theorem d_M_isSet_24 : decode b_M_isSet 24 = .ok (.goto 4, 3) := by decide +kernel
theorem d_M_isSet_27 : decode b_M_isSet 27 = .ok (.iconst 0, 1) := by decide +kernel
theorem d_M_isSet_28 : decode b_M_isSet 28 = .ok (.ireturn, 1) := by decide +kernel
theorem d_M_changeBack_0 : decode b_M_changeBack 0 = .ok (.aload_n 0, 1) := by decide +kernel
theorem d_M_changeBack_1 : decode b_M_changeBack 1 = .ok (.sipush 224, 3) := by decide +kernel
theorem d_M_changeBack_4 : decode b_M_changeBack 4 = .ok (.invokevirtual 79, 3) := by decide +kernel
theorem d_M_changeBack_7 : decode b_M_changeBack 7 = .ok (.aload_n 0, 1) := by decide +kernel
theorem d_M_changeBack_8 : decode b_M_changeBack 8 = .ok (.bipush 13, 2) := by decide +kernel
theorem d_M_changeBack_10 : decode b_M_changeBack 10 = .ok (.invokevirtual 65, 3) := by decide +kernel
theorem d_M_changeBack_13 : decode b_M_changeBack 13 = .ok (.aload_n 0, 1) := by decide +kernel
theorem d_M_changeBack_14 : decode b_M_changeBack 14 = .ok (.bipush 14, 2) := by decide +kernel
theorem d_M_changeBack_16 : decode b_M_changeBack 16 = .ok (.invokevirtual 65, 3) := by decide +kernel
theorem d_M_changeBack_19 : decode b_M_changeBack 19 = .ok (.return_, 1) := by decide +kernel
theorem d_M_settle_0 : decode b_M_settle 0 = .ok (.aload_n 0, 1) := by decide +kernel
theorem d_M_settle_1 : decode b_M_settle 1 = .ok (.sipush 224, 3) := by decide +kernel
theorem d_M_settle_4 : decode b_M_settle 4 = .ok (.invokevirtual 76, 3) := by decide +kernel
theorem d_M_settle_7 : decode b_M_settle 7 = .ok (.ifCond .eq 10, 3) := by decide +kernel
theorem d_M_settle_10 : decode b_M_settle 10 = .ok (.aload_n 0, 1) := by decide +kernel
theorem d_M_settle_11 : decode b_M_settle 11 = .ok (.invokevirtual 82, 3) := by decide +kernel
theorem d_M_settle_14 : decode b_M_settle 14 = .ok (.goto 121, 3) := by decide +kernel
theorem d_M_settle_17 : decode b_M_settle 17 = .ok (.aload_n 0, 1) := by decide +kernel
theorem d_M_settle_18 : decode b_M_settle 18 = .ok (.sipush 208, 3) := by decide +kernel
theorem d_M_settle_21 : decode b_M_settle 21 = .ok (.invokevirtual 76, 3) := by decide +kernel
theorem d_M_settle_24 : decode b_M_settle 24 = .ok (.ifCond .eq 57, 3) := by decide +kernel
theorem d_M_settle_27 : decode b_M_settle 27 = .ok (.aload_n 0, 1) := by decide +kernel
theorem d_M_settle_28 : decode b_M_settle 28 = .ok (.iconst 1, 1) := by decide +kernel
theorem d_M_settle_29 : decode b_M_settle 29 = .ok (.invokevirtual 85, 3) := by decide +kernel
theorem d_M_settle_32 : decode b_M_settle 32 = .ok (.ifCond .ne 49, 3) := by decide +kernel
theorem d_M_settle_35 : decode b_M_settle 35 = .ok (.aload_n 0, 1) := by decide +kernel
theorem d_M_settle_36 : decode b_M_settle 36 = .ok (.sipush 208, 3) := by decide +kernel
theorem d_M_settle_39 : decode b_M_settle 39 = .ok (.invokevirtual 88, 3) := by decide +kernel
theorem d_M_settle_42 : decode b_M_settle 42 = .ok (.ifCond .ne 21, 3) := by decide +kernel
theorem d_M_settle_45 : decode b_M_settle 45 = .ok (.aload_n 0, 1) := by decide +kernel
theorem d_M_settle_46 : decode b_M_settle 46 = .ok (.bipush 96, 2) := by decide +kernel
theorem d_M_settle_48 : decode b_M_settle 48 = .ok (.invokevirtual 92, 3) := by decide +kernel
theorem d_M_settle_51 : decode b_M_settle 51 = .ok (.ifCond .ne 12, 3) := by decide +kernel
theorem d_M_settle_54 : decode b_M_settle 54 = .ok (.aload_n 0, 1) := by decide +kernel
theorem d_M_settle_55 : decode b_M_settle 55 = .ok (.bipush 13, 2) := by decide +kernel
theorem d_M_settle_57 : decode b_M_settle 57 = .ok (.invokevirtual 65, 3) := by decide +kernel
theorem d_M_settle_60 : decode b_M_settle 60 = .ok (.goto 75, 3) := by decide +kernel
theorem d_M_settle_63 : decode b_M_settle 63 = .ok (.aload_n 0, 1) := by decide +kernel
theorem d_M_settle_64 : decode b_M_settle 64 = .ok (.sipush 208, 3) := by decide +kernel
theorem d_M_settle_67 : decode b_M_settle 67 = .ok (.invokevirtual 79, 3) := by decide +kernel
theorem d_M_settle_70 : decode b_M_settle 70 = .ok (.aload_n 0, 1) := by decide +kernel
theorem d_M_settle_71 : decode b_M_settle 71 = .ok (.sipush 209, 3) := by decide +kernel
theorem d_M_settle_74 : decode b_M_settle 74 = .ok (.iconst 0, 1) := by decide +kernel
theorem d_M_settle_75 : decode b_M_settle 75 = .ok (.invokevirtual 69, 3) := by decide +kernel
theorem d_M_settle_78 : decode b_M_settle 78 = .ok (.goto 57, 3) := by decide +kernel
theorem d_M_settle_81 : decode b_M_settle 81 = .ok (.aload_n 0, 1) := by decide +kernel
theorem d_M_settle_82 : decode b_M_settle 82 = .ok (.iconst 1, 1) := by decide +kernel
theorem d_M_settle_83 : decode b_M_settle 83 = .ok (.invokevirtual 85, 3) := by decide +kernel
theorem d_M_settle_86 : decode b_M_settle 86 = .ok (.ifCond .eq 20, 3) := by decide +kernel
theorem d_M_settle_89 : decode b_M_settle 89 = .ok (.aload_n 0, 1) := by decide +kernel
theorem d_M_settle_90 : decode b_M_settle 90 = .ok (.iconst 2, 1) := by decide +kernel
theorem d_M_settle_91 : decode b_M_settle 91 = .ok (.invokevirtual 85, 3) := by decide +kernel
theorem d_M_settle_94 : decode b_M_settle 94 = .ok (.ifCond .eq 12, 3) := by decide +kernel
theorem d_M_settle_97 : decode b_M_settle 97 = .ok (.aload_n 0, 1) := by decide +kernel
theorem d_M_settle_98 : decode b_M_settle 98 = .ok (.bipush 13, 2) := by decide +kernel
theorem d_M_settle_100 : decode b_M_settle 100 = .ok (.invokevirtual 65, 3) := by decide +kernel
theorem d_M_settle_103 : decode b_M_settle 103 = .ok (.goto 32, 3) := by decide +kernel
theorem d_M_settle_106 : decode b_M_settle 106 = .ok (.aload_n 0, 1) := by decide +kernel
theorem d_M_settle_107 : decode b_M_settle 107 = .ok (.iconst 1, 1) := by decide +kernel
theorem d_M_settle_108 : decode b_M_settle 108 = .ok (.invokevirtual 85, 3) := by decide +kernel
theorem d_M_settle_111 : decode b_M_settle 111 = .ok (.ifCond .eq 24, 3) := by decide +kernel
theorem d_M_settle_114 : decode b_M_settle 114 = .ok (.aload_n 0, 1) := by decide +kernel
theorem d_M_settle_115 : decode b_M_settle 115 = .ok (.iconst 3, 1) := by decide +kernel
theorem d_M_settle_116 : decode b_M_settle 116 = .ok (.invokevirtual 85, 3) := by decide +kernel
theorem d_M_settle_119 : decode b_M_settle 119 = .ok (.ifCond .eq 16, 3) := by decide +kernel
theorem d_M_settle_122 : decode b_M_settle 122 = .ok (.aload_n 0, 1) := by decide +kernel
theorem d_M_settle_123 : decode b_M_settle 123 = .ok (.sipush 224, 3) := by decide +kernel
theorem d_M_settle_126 : decode b_M_settle 126 = .ok (.bipush 15, 2) := by decide +kernel
theorem d_M_settle_128 : decode b_M_settle 128 = .ok (.invokevirtual 69, 3) := by decide +kernel
theorem d_M_settle_131 : decode b_M_settle 131 = .ok (.aload_n 0, 1) := by decide +kernel
theorem d_M_settle_132 : decode b_M_settle 132 = .ok (.invokevirtual 82, 3) := by decide +kernel
theorem d_M_settle_135 : decode b_M_settle 135 = .ok (.return_, 1) := by decide +kernel
set_option maxHeartbeats 4000000 in
set_option maxRecDepth 100000 in
theorem k_M_thrown (l : Launch) (D : va_G) (cA : ClassId) (aM aG : Nat) (st : Ms) (sz : Nat) : Ci l y_M_thrown b_M_thrown 1 (some .int) 0 D cA (MW cA aM aG) st sz [.ref aM] (fun r u => r = st.2.1.1 ∧ u = st) := by
  refine Ci.enter (by decide) (Nat.le_of_ble_eq_true rfl) ?_
  intro pr en s0 m0 ar bl me co A ls hx hb hml hr hlk hown hts hK hN hA hP hD hS hl
  have hl : lv_has ls 1 [(0, .ref aM)] := hl
  have hown : s0.vm.findClass R_M = some m0.cls := hown
  refine lv_aload_n hx hb d_M_thrown_0 rfl (lv_at hl 0 rfl) ?_
  refine va_get (D := D) (ci := 4) (v := .int st.2.1.1) (C := R_M) (T := T_M) (N := 14) hx hb hts in_M hown hK hP 0 rfl rfl 0 (by decide) (hts _ wm_354) (fun _ h9 => h9) rfl d_M_thrown_1 ?_
  refine sw_iret (u := st) (v := st.2.1.1) hx hb hr hlk hK hP hD hS d_M_thrown_4 rfl ?_
  exact ⟨rfl, rfl⟩
set_option maxHeartbeats 4000000 in
set_option maxRecDepth 100000 in
theorem k_M_may (l : Launch) (D : va_G) (cA : ClassId) (aM aG : Nat) (st : Ms) (sz : Nat) : Ci l y_M_may b_M_may 1 (some .boolean) 0 D cA (MW cA aM aG) st sz [.ref aM] (fun r u => r = b2i (!(pmay st.1).2) ∧ u = (pmay st.1, st.2)) := by
  refine Ci.enter (by decide) (Nat.le_of_ble_eq_true rfl) ?_
  intro pr en s0 m0 ar bl me co A ls hx hb hml hr hlk hown hts hK hN hA hP hD hS hl
  have hl : lv_has ls 1 [(0, .ref aM)] := hl
  have hown : s0.vm.findClass R_M = some m0.cls := hown
  refine lv_aload_n hx hb d_M_may_0 rfl (lv_at hl 0 rfl) ?_
  refine va_get (D := D) (ci := 4) (v := .int (b2i (st.1.2))) (C := R_M) (T := T_M) (N := 14) hx hb hts in_M hown hK hP 0 rfl rfl 5 (by decide) (hts _ wm_359) (fun _ h9 => h9) rfl d_M_may_1 ?_
  refine sw_bz_eq (tgt := 9) hx hb d_M_may_4 (by decide) (fun h4 => ?_) (fun h4 => ?_)
  · skip
    refine lv_aload_n hx hb d_M_may_9 rfl (lv_at hl 0 rfl) ?_
    refine va_get (D := D) (ci := 4) (v := .int st.1.1.2.1) (C := R_M) (T := T_M) (N := 14) hx hb hts in_M hown hK hP 0 rfl rfl 4 (by decide) (hts _ wm_358) (fun _ h9 => h9) rfl d_M_may_10 ?_
    refine lv_if_ne (tgt := 28) hx hb d_M_may_13 (by decide) (fun h13 => ?_) (fun h13 => ?_)
    · skip
      refine lv_aload_n hx hb d_M_may_28 rfl (lv_at hl 0 rfl) ?_
      refine lv_dup hx hb d_M_may_29 rfl ?_
      refine va_get (D := D) (ci := 4) (v := .int st.1.1.2.1) (C := R_M) (T := T_M) (N := 14) hx hb hts in_M hown hK hP 0 rfl rfl 4 (by decide) (hts _ wm_358) (fun _ h9 => h9) rfl d_M_may_30 ?_
      refine lv_aload_n hx hb d_M_may_33 rfl (lv_at hl 0 rfl) ?_
      refine va_get (D := D) (ci := 4) (v := .int st.1.1.2.1) (C := R_M) (T := T_M) (N := 14) hx hb hts in_M hown hK hP 0 rfl rfl 4 (by decide) (hts _ wm_358) (fun _ h9 => h9) rfl d_M_may_34 ?_
      refine lv_if_le (tgt := 44) hx hb d_M_may_37 (by decide) (fun h37 => ?_) (fun h37 => ?_)
      · skip
        refine lv_iconst (v := 0) hx hb d_M_may_44 (by decide) ?_
        refine lv_isub hx hb d_M_may_45 ?_
        refine va_put (D := D) (ci := 4) (v := .int (st.1.1.2.1 - (0 : Int32))) (ty := .int) (C := R_M) (T := T_M) (N := 14) hx hb hts in_M ty_M ty_M_ok nm_M hown hK hP hD hS 0 rfl rfl 4 (by decide) (hts _ wm_358) (fun _ h9 => h9) rfl (ty_M_ok 4 (by decide)) rfl rfl (Nat.le_of_ble_eq_true rfl) d_M_may_46 (fun H locs hP hD hS => ?_)
        have hP : va_P D vwC (MW cA aM aG (((st.1.1.1, (st.1.1.2.1 - (0 : Int32)), st.1.1.2.2.1, st.1.1.2.2.2), st.1.2), (st.2.1.1, st.2.1.2.1, st.2.1.2.2), (st.2.2.1, st.2.2.2.1, st.2.2.2.2.1, st.2.2.2.2.2.1, st.2.2.2.2.2.2.1, st.2.2.2.2.2.2.2))) H := hP
        have hD : va_D A (MW cA aM aG (((st.1.1.1, (st.1.1.2.1 - (0 : Int32)), st.1.1.2.2.1, st.1.1.2.2.2), st.1.2), (st.2.1.1, st.2.1.2.1, st.2.1.2.2), (st.2.2.1, st.2.2.2.1, st.2.2.2.2.1, st.2.2.2.2.2.1, st.2.2.2.2.2.2.1, st.2.2.2.2.2.2.2))) := hD
        refine lv_aload_n hx hb d_M_may_49 rfl (lv_at hl 0 rfl) ?_
        refine lv_dup hx hb d_M_may_50 rfl ?_
        refine va_get (D := D) (ci := 4) (v := .int st.1.1.2.2.1) (C := R_M) (T := T_M) (N := 14) hx hb hts in_M hown hK hP 0 rfl rfl 6 (by decide) (hts _ wm_360) (fun _ h9 => h9) rfl d_M_may_51 ?_
        refine lv_iconst (v := 1) hx hb d_M_may_54 (by decide) ?_
        refine lv_iadd hx hb d_M_may_55 ?_
        refine va_put (D := D) (ci := 4) (v := .int (st.1.1.2.2.1 + (1 : Int32))) (ty := .int) (C := R_M) (T := T_M) (N := 14) hx hb hts in_M ty_M ty_M_ok nm_M hown hK hP hD hS 0 rfl rfl 6 (by decide) (hts _ wm_360) (fun _ h9 => h9) rfl (ty_M_ok 6 (by decide)) rfl rfl (Nat.le_of_ble_eq_true rfl) d_M_may_56 (fun H locs hP hD hS => ?_)
        have hP : va_P D vwC (MW cA aM aG (((st.1.1.1, (st.1.1.2.1 - (0 : Int32)), (st.1.1.2.2.1 + (1 : Int32)), st.1.1.2.2.2), st.1.2), (st.2.1.1, st.2.1.2.1, st.2.1.2.2), (st.2.2.1, st.2.2.2.1, st.2.2.2.2.1, st.2.2.2.2.2.1, st.2.2.2.2.2.2.1, st.2.2.2.2.2.2.2))) H := hP
        have hD : va_D A (MW cA aM aG (((st.1.1.1, (st.1.1.2.1 - (0 : Int32)), (st.1.1.2.2.1 + (1 : Int32)), st.1.1.2.2.2), st.1.2), (st.2.1.1, st.2.1.2.1, st.2.1.2.2), (st.2.2.1, st.2.2.2.1, st.2.2.2.2.1, st.2.2.2.2.2.1, st.2.2.2.2.2.2.1, st.2.2.2.2.2.2.2))) := hD
        refine lv_iconst (v := 1) hx hb d_M_may_59 (by decide) ?_
        refine sw_iret (u := (((st.1.1.1, (st.1.1.2.1 - (0 : Int32)), (st.1.1.2.2.1 + (1 : Int32)), st.1.1.2.2.2), st.1.2), (st.2.1.1, st.2.1.2.1, st.2.1.2.2), (st.2.2.1, st.2.2.2.1, st.2.2.2.2.1, st.2.2.2.2.2.1, st.2.2.2.2.2.2.1, st.2.2.2.2.2.2.2))) (v := (1 : Int32)) hx hb hr hlk hK hP hD hS d_M_may_60 rfl ?_
        rw [show pmay st.1 = _ from (if_neg (show ¬ st.1.2 = true by rw [h4]; decide)).trans (if_neg h13), if_neg (i32_nlt h37), i32_sub0, h4]
        exact ⟨rfl, rfl⟩
      · skip
        refine lv_iconst (v := 1) hx hb d_M_may_40 (by decide) ?_
        refine lv_goto (tgt := 45) hx hb d_M_may_41 (by decide) ?_
        refine lv_isub hx hb d_M_may_45 ?_
        refine va_put (D := D) (ci := 4) (v := .int (st.1.1.2.1 - (1 : Int32))) (ty := .int) (C := R_M) (T := T_M) (N := 14) hx hb hts in_M ty_M ty_M_ok nm_M hown hK hP hD hS 0 rfl rfl 4 (by decide) (hts _ wm_358) (fun _ h9 => h9) rfl (ty_M_ok 4 (by decide)) rfl rfl (Nat.le_of_ble_eq_true rfl) d_M_may_46 (fun H locs hP hD hS => ?_)
        have hP : va_P D vwC (MW cA aM aG (((st.1.1.1, (st.1.1.2.1 - (1 : Int32)), st.1.1.2.2.1, st.1.1.2.2.2), st.1.2), (st.2.1.1, st.2.1.2.1, st.2.1.2.2), (st.2.2.1, st.2.2.2.1, st.2.2.2.2.1, st.2.2.2.2.2.1, st.2.2.2.2.2.2.1, st.2.2.2.2.2.2.2))) H := hP
        have hD : va_D A (MW cA aM aG (((st.1.1.1, (st.1.1.2.1 - (1 : Int32)), st.1.1.2.2.1, st.1.1.2.2.2), st.1.2), (st.2.1.1, st.2.1.2.1, st.2.1.2.2), (st.2.2.1, st.2.2.2.1, st.2.2.2.2.1, st.2.2.2.2.2.1, st.2.2.2.2.2.2.1, st.2.2.2.2.2.2.2))) := hD
        refine lv_aload_n hx hb d_M_may_49 rfl (lv_at hl 0 rfl) ?_
        refine lv_dup hx hb d_M_may_50 rfl ?_
        refine va_get (D := D) (ci := 4) (v := .int st.1.1.2.2.1) (C := R_M) (T := T_M) (N := 14) hx hb hts in_M hown hK hP 0 rfl rfl 6 (by decide) (hts _ wm_360) (fun _ h9 => h9) rfl d_M_may_51 ?_
        refine lv_iconst (v := 1) hx hb d_M_may_54 (by decide) ?_
        refine lv_iadd hx hb d_M_may_55 ?_
        refine va_put (D := D) (ci := 4) (v := .int (st.1.1.2.2.1 + (1 : Int32))) (ty := .int) (C := R_M) (T := T_M) (N := 14) hx hb hts in_M ty_M ty_M_ok nm_M hown hK hP hD hS 0 rfl rfl 6 (by decide) (hts _ wm_360) (fun _ h9 => h9) rfl (ty_M_ok 6 (by decide)) rfl rfl (Nat.le_of_ble_eq_true rfl) d_M_may_56 (fun H locs hP hD hS => ?_)
        have hP : va_P D vwC (MW cA aM aG (((st.1.1.1, (st.1.1.2.1 - (1 : Int32)), (st.1.1.2.2.1 + (1 : Int32)), st.1.1.2.2.2), st.1.2), (st.2.1.1, st.2.1.2.1, st.2.1.2.2), (st.2.2.1, st.2.2.2.1, st.2.2.2.2.1, st.2.2.2.2.2.1, st.2.2.2.2.2.2.1, st.2.2.2.2.2.2.2))) H := hP
        have hD : va_D A (MW cA aM aG (((st.1.1.1, (st.1.1.2.1 - (1 : Int32)), (st.1.1.2.2.1 + (1 : Int32)), st.1.1.2.2.2), st.1.2), (st.2.1.1, st.2.1.2.1, st.2.1.2.2), (st.2.2.1, st.2.2.2.1, st.2.2.2.2.1, st.2.2.2.2.2.1, st.2.2.2.2.2.2.1, st.2.2.2.2.2.2.2))) := hD
        refine lv_iconst (v := 1) hx hb d_M_may_59 (by decide) ?_
        refine sw_iret (u := (((st.1.1.1, (st.1.1.2.1 - (1 : Int32)), (st.1.1.2.2.1 + (1 : Int32)), st.1.1.2.2.2), st.1.2), (st.2.1.1, st.2.1.2.1, st.2.1.2.2), (st.2.2.1, st.2.2.2.1, st.2.2.2.2.1, st.2.2.2.2.2.1, st.2.2.2.2.2.2.1, st.2.2.2.2.2.2.2))) (v := (1 : Int32)) hx hb hr hlk hK hP hD hS d_M_may_60 rfl ?_
        rw [show pmay st.1 = _ from (if_neg (show ¬ st.1.2 = true by rw [h4]; decide)).trans (if_neg h13), if_pos (i32_lt h37), h4]
        exact ⟨rfl, rfl⟩
    · skip
      refine lv_aload_n hx hb d_M_may_16 rfl (lv_at hl 0 rfl) ?_
      refine lv_iconst (v := 1) hx hb d_M_may_17 (by decide) ?_
      refine va_put (D := D) (ci := 4) (v := .int (1 : Int32)) (ty := .boolean) (C := R_M) (T := T_M) (N := 14) hx hb hts in_M ty_M ty_M_ok nm_M hown hK hP hD hS 0 rfl rfl 5 (by decide) (hts _ wm_359) (fun _ h9 => h9) rfl (ty_M_ok 5 (by decide)) rfl rfl (Nat.le_of_ble_eq_true rfl) d_M_may_18 (fun H locs hP hD hS => ?_)
      have hP : va_P D vwC (MW cA aM aG (((st.1.1.1, st.1.1.2.1, st.1.1.2.2.1, st.1.1.2.2.2), true), (st.2.1.1, st.2.1.2.1, st.2.1.2.2), (st.2.2.1, st.2.2.2.1, st.2.2.2.2.1, st.2.2.2.2.2.1, st.2.2.2.2.2.2.1, st.2.2.2.2.2.2.2))) H := hP
      have hD : va_D A (MW cA aM aG (((st.1.1.1, st.1.1.2.1, st.1.1.2.2.1, st.1.1.2.2.2), true), (st.2.1.1, st.2.1.2.1, st.2.1.2.2), (st.2.2.1, st.2.2.2.1, st.2.2.2.2.1, st.2.2.2.2.2.1, st.2.2.2.2.2.2.1, st.2.2.2.2.2.2.2))) := hD
      refine lv_aload_n hx hb d_M_may_21 rfl (lv_at hl 0 rfl) ?_
      refine lv_iconst (v := -1) hx hb d_M_may_22 (by decide) ?_
      refine va_put (D := D) (ci := 4) (v := .int (-1 : Int32)) (ty := .int) (C := R_M) (T := T_M) (N := 14) hx hb hts in_M ty_M ty_M_ok nm_M hown hK hP hD hS 0 rfl rfl 4 (by decide) (hts _ wm_358) (fun _ h9 => h9) rfl (ty_M_ok 4 (by decide)) rfl rfl (Nat.le_of_ble_eq_true rfl) d_M_may_23 (fun H locs hP hD hS => ?_)
      have hP : va_P D vwC (MW cA aM aG (((st.1.1.1, (-1 : Int32), st.1.1.2.2.1, st.1.1.2.2.2), true), (st.2.1.1, st.2.1.2.1, st.2.1.2.2), (st.2.2.1, st.2.2.2.1, st.2.2.2.2.1, st.2.2.2.2.2.1, st.2.2.2.2.2.2.1, st.2.2.2.2.2.2.2))) H := hP
      have hD : va_D A (MW cA aM aG (((st.1.1.1, (-1 : Int32), st.1.1.2.2.1, st.1.1.2.2.2), true), (st.2.1.1, st.2.1.2.1, st.2.1.2.2), (st.2.2.1, st.2.2.2.1, st.2.2.2.2.1, st.2.2.2.2.2.1, st.2.2.2.2.2.2.1, st.2.2.2.2.2.2.2))) := hD
      refine lv_iconst (v := 0) hx hb d_M_may_26 (by decide) ?_
      refine sw_iret (u := (((st.1.1.1, (-1 : Int32), st.1.1.2.2.1, st.1.1.2.2.2), true), (st.2.1.1, st.2.1.2.1, st.2.1.2.2), (st.2.2.1, st.2.2.2.1, st.2.2.2.2.1, st.2.2.2.2.2.1, st.2.2.2.2.2.2.1, st.2.2.2.2.2.2.2))) (v := (0 : Int32)) hx hb hr hlk hK hP hD hS d_M_may_27 rfl ?_
      rw [show pmay st.1 = _ from (if_neg (show ¬ st.1.2 = true by rw [h4]; decide)).trans (if_pos h13)]
      exact ⟨rfl, rfl⟩
  · skip
    refine lv_iconst (v := 0) hx hb d_M_may_7 (by decide) ?_
    refine sw_iret (u := st) (v := (0 : Int32)) hx hb hr hlk hK hP hD hS d_M_may_8 rfl ?_
    rw [pmay_went h4, h4]
    exact ⟨rfl, rfl⟩
set_option maxHeartbeats 4000000 in
set_option maxRecDepth 100000 in
theorem k_M_erase (l : Launch) (D : va_G) (cA : ClassId) (aM aG : Nat) (st : Ms) (sz : Nat) (p0 : Nat) (h : p0 < 15) : Cv l y_M_erase b_M_erase 3 none 1 D cA (MW cA aM aG) st sz [.ref aM, .int (nI p0)] (fun u => u = (perase p0 st.1, st.2)) := by
  refine Cv.enter (by decide) (Nat.le_of_ble_eq_true rfl) ?_
  intro pr en s0 m0 ar bl me co A ls hx hb hml hr hlk hown hts hK hN hA hP hD hS hl
  have hl : lv_has ls 3 [(0, .ref aM), (1, .int (nI p0))] := hl
  have hown : s0.vm.findClass R_M = some m0.cls := hown
  refine lv_aload_n hx hb d_M_erase_0 rfl (lv_at hl 0 rfl) ?_
  refine sw_callVi (rest := []) 0 4 [] hx hb hml hown hts hK hN hA hP hD hS (k_M_may l D cA aM aG st _) cw_M_27 rfl rfl rfl ⟨Nat.le_of_ble_eq_true rfl, Nat.le_of_ble_eq_true rfl⟩ hl.1 rfl rfl (Nat.le_of_ble_eq_true rfl) d_M_erase_1 (fun r1 u1 H locs hq1 hP hD hS => ?_)
  obtain ⟨hr1, hu1⟩ := hq1
  rw [hr1]
  refine sw_bz_ne (tgt := 8) hx hb d_M_erase_4 (by decide) (fun h4 => ?_) (fun h4 => ?_)
  · skip
    refine lv_bipush (v := 16) hx hb d_M_erase_8 (by decide) ?_
    refine lv_iload_n hx hb d_M_erase_10 rfl (lv_at hl 1 rfl) ?_
    refine lv_imul hx hb d_M_erase_11 ?_
    refine sw_tp (y := nI (p0 * 16)) ((pk_mul 16 p0).trans (niE (by omega))) ?_
    refine lv_istore_n hx hb d_M_erase_12 rfl hl (by decide) rfl (fun ls hl => ?_)
    have hl : lv_has ls 3 [(2, .int (nI (p0 * 16))), (0, .ref aM), (1, .int (nI p0))] := hl
    have loop : ∀ (d : Nat) (i : Nat) (u : Ms) (H : Heap) (locs : List Loc) (ls : Array Slot), 16 - i = d → i ≤ 16 → u.1.1.1 = pfill u1.1.1.1 (p0 * 16) i → u.1.1.2 = u1.1.1.2 → u.1.2 = u1.1.2 → u.2 = u1.2 → lv_has ls 3 [(2, .int (nI (p0 * 16 + i))), (0, .ref aM), (1, .int (nI p0))] → va_P D vwC (MW cA aM aG u) H → va_D A (MW cA aM aG u) → va_S A s0.heap H locs → W pr l en (lvr 1) s0 m0 ar bl me co H locs 0 0 (MQ bl (va_Qv (fun u => u = (perase p0 st.1, st.2)) (sw_B D cA A (MW cA aM aG)) A) ar s0 0 0 A) (F0 m0 13 ls []) := by
      intro d
      induction d using Nat.strongRecOn with
      | ind d ih =>
        intro i u H locs ls hd hi hF hG hW hE hl hP hD hS
        refine lv_iload_n hx hb d_M_erase_13 rfl (lv_at hl 0 rfl) ?_
        refine lv_bipush (v := 16) hx hb d_M_erase_14 (by decide) ?_
        refine lv_iload_n hx hb d_M_erase_16 rfl (lv_at hl 2 rfl) ?_
        refine lv_imul hx hb d_M_erase_17 ?_
        refine sw_tp (y := nI (p0 * 16)) ((pk_mul 16 p0).trans (niE (by omega))) ?_
        refine lv_bipush (v := 16) hx hb d_M_erase_18 (by decide) ?_
        refine lv_iadd hx hb d_M_erase_20 ?_
        refine sw_tp (y := nI ((p0 * 16) + 16)) (nI_add (p0 * 16) 16) ?_
        refine sw_nc_ge (a := p0 * 16 + i) (b := (p0 * 16) + 16) (tgt := 39) hx hb (by omega) (by omega) d_M_erase_21 (by decide) (fun h21 => ?_) (fun h21 => ?_)
        · skip
          refine sw_vret (u := u) hx hb hr hlk hK hP hD hS d_M_erase_39 ?_
          have hi : i = 16 := by omega
          subst hi
          have hw := mz_ok h4
          rw [hu1] at hF hG hW hE
          show _ = (perase p0 st.1, st.2)
          rw [show perase p0 st.1 = _ from if_neg (show ¬ (pmay st.1).2 = true by rw [hw]; decide)]
          exact Prod.ext (Prod.ext (Prod.ext hF hG) (hW.trans hw)) hE
        · skip
          refine lv_aload_n hx hb d_M_erase_24 rfl (lv_at hl 1 rfl) ?_
          refine va_get (D := D) (ci := 4) (v := .ref aG) (C := R_M) (T := T_M) (N := 14) hx hb hts in_M hown hK hP 0 rfl rfl 1 (by decide) (hts _ wm_355) (fun _ h9 => h9) rfl d_M_erase_25 ?_
          refine lv_iload_n hx hb d_M_erase_28 rfl (lv_at hl 0 rfl) ?_
          refine lv_sipush (v := 255) hx hb d_M_erase_29 (by decide) ?_
          refine sw_ast (n := p0 * 16 + i) (x := (255 : Int32)) (f := u.1.1.1) hx hb hK hP hD hS 1 0 rfl rfl (by omega) (by decide) d_M_erase_32 (fun H locs hP hD hS => ?_)
          have hP : va_P D vwC (MW cA aM aG (((upd u.1.1.1 (p0 * 16 + i) (255 : Int32), u.1.1.2.1, u.1.1.2.2.1, u.1.1.2.2.2), u.1.2), (u.2.1.1, u.2.1.2.1, u.2.1.2.2), (u.2.2.1, u.2.2.2.1, u.2.2.2.2.1, u.2.2.2.2.2.1, u.2.2.2.2.2.2.1, u.2.2.2.2.2.2.2))) H := hP
          have hD : va_D A (MW cA aM aG (((upd u.1.1.1 (p0 * 16 + i) (255 : Int32), u.1.1.2.1, u.1.1.2.2.1, u.1.1.2.2.2), u.1.2), (u.2.1.1, u.2.1.2.1, u.2.1.2.2), (u.2.2.1, u.2.2.2.1, u.2.2.2.2.1, u.2.2.2.2.2.1, u.2.2.2.2.2.2.1, u.2.2.2.2.2.2.2))) := hD
          refine lv_iinc (k := 0) (v := nI (p0 * 16 + i + 1)) hx hb d_M_erase_33 hl rfl (nI_1 _) (by decide) rfl (fun ls hl => ?_)
          have hl : lv_has ls 3 [(2, .int (nI (p0 * 16 + i + 1))), (0, .ref aM), (1, .int (nI p0))] := hl
          refine lv_goto (tgt := 13) hx hb d_M_erase_36 (by decide) ?_
          exact ih (16 - (i + 1)) (by omega) (i + 1) (((upd u.1.1.1 (p0 * 16 + i) (255 : Int32), u.1.1.2.1, u.1.1.2.2.1, u.1.1.2.2.2), u.1.2), (u.2.1.1, u.2.1.2.1, u.2.1.2.2), (u.2.2.1, u.2.2.2.1, u.2.2.2.2.1, u.2.2.2.2.2.1, u.2.2.2.2.2.2.1, u.2.2.2.2.2.2.2)) _ _ _ rfl (by omega) (by rw [hF]; exact pfill_s _ _ _) hG hW hE (lv_sub hl [0, 1, 2] rfl) hP hD hS
    exact loop _ 0 u1 _ _ _ rfl (by omega) (pfill_0 _ _).symm rfl rfl rfl (lv_sub hl [0, 1, 2] rfl) hP hD hS
  · skip
    refine sw_vret (u := u1) hx hb hr hlk hK hP hD hS d_M_erase_7 ?_
    show _ = (perase p0 st.1, st.2)
    rw [show perase p0 st.1 = pmay st.1 from if_pos (mz_no h4)]
    exact hu1
set_option maxHeartbeats 4000000 in
set_option maxRecDepth 100000 in
theorem k_M_write (l : Launch) (D : va_G) (cA : ClassId) (aM aG : Nat) (st : Ms) (sz : Nat) (a : Nat) (v : Int32) (h : a < 240) : Cv l y_M_write b_M_write 3 none 1 D cA (MW cA aM aG) st sz [.ref aM, .int (nI a), .int v] (fun u => u = (pwrite a v st.1, st.2)) := by
  refine Cv.enter (by decide) (Nat.le_of_ble_eq_true rfl) ?_
  intro pr en s0 m0 ar bl me co A ls hx hb hml hr hlk hown hts hK hN hA hP hD hS hl
  have hl : lv_has ls 3 [(0, .ref aM), (1, .int (nI a)), (2, .int v)] := hl
  have hown : s0.vm.findClass R_M = some m0.cls := hown
  refine lv_aload_n hx hb d_M_write_0 rfl (lv_at hl 0 rfl) ?_
  refine sw_callVi (rest := []) 0 4 [] hx hb hml hown hts hK hN hA hP hD hS (k_M_may l D cA aM aG st _) cw_M_27 rfl rfl rfl ⟨Nat.le_of_ble_eq_true rfl, Nat.le_of_ble_eq_true rfl⟩ hl.1 rfl rfl (Nat.le_of_ble_eq_true rfl) d_M_write_1 (fun r1 u1 H locs hq1 hP hD hS => ?_)
  obtain ⟨hr1, hu1⟩ := hq1
  rw [hr1]
  refine sw_bz_ne (tgt := 8) hx hb d_M_write_4 (by decide) (fun h4 => ?_) (fun h4 => ?_)
  · skip
    refine lv_aload_n hx hb d_M_write_8 rfl (lv_at hl 0 rfl) ?_
    refine va_get (D := D) (ci := 4) (v := .ref aG) (C := R_M) (T := T_M) (N := 14) hx hb hts in_M hown hK hP 0 rfl rfl 1 (by decide) (hts _ wm_355) (fun _ h9 => h9) rfl d_M_write_9 ?_
    refine lv_iload_n hx hb d_M_write_12 rfl (lv_at hl 1 rfl) ?_
    refine lv_dup2_11 hx hb d_M_write_13 rfl rfl ?_
    refine sw_ald (n := a) (f := u1.1.1.1) hx hb hK hP 1 0 rfl rfl (by omega) (by decide) d_M_write_14 ?_
    refine lv_iload_n hx hb d_M_write_15 rfl (lv_at hl 2 rfl) ?_
    refine lv_iand hx hb d_M_write_16 ?_
    refine sw_ast (n := a) (x := ((u1.1.1.1 a) &&& v)) (f := u1.1.1.1) hx hb hK hP hD hS 1 0 rfl rfl (by omega) (by decide) d_M_write_17 (fun H locs hP hD hS => ?_)
    have hP : va_P D vwC (MW cA aM aG (((upd u1.1.1.1 a ((u1.1.1.1 a) &&& v), u1.1.1.2.1, u1.1.1.2.2.1, u1.1.1.2.2.2), u1.1.2), (u1.2.1.1, u1.2.1.2.1, u1.2.1.2.2), (u1.2.2.1, u1.2.2.2.1, u1.2.2.2.2.1, u1.2.2.2.2.2.1, u1.2.2.2.2.2.2.1, u1.2.2.2.2.2.2.2))) H := hP
    have hD : va_D A (MW cA aM aG (((upd u1.1.1.1 a ((u1.1.1.1 a) &&& v), u1.1.1.2.1, u1.1.1.2.2.1, u1.1.1.2.2.2), u1.1.2), (u1.2.1.1, u1.2.1.2.1, u1.2.1.2.2), (u1.2.2.1, u1.2.2.2.1, u1.2.2.2.2.1, u1.2.2.2.2.2.1, u1.2.2.2.2.2.2.1, u1.2.2.2.2.2.2.2))) := hD
    refine lv_aload_n hx hb d_M_write_18 rfl (lv_at hl 0 rfl) ?_
    refine lv_dup hx hb d_M_write_19 rfl ?_
    refine va_get (D := D) (ci := 4) (v := .int u1.1.1.2.2.2) (C := R_M) (T := T_M) (N := 14) hx hb hts in_M hown hK hP 0 rfl rfl 7 (by decide) (hts _ wm_361) (fun _ h9 => h9) rfl d_M_write_20 ?_
    refine lv_iconst (v := 1) hx hb d_M_write_23 (by decide) ?_
    refine lv_iadd hx hb d_M_write_24 ?_
    refine va_put (D := D) (ci := 4) (v := .int (u1.1.1.2.2.2 + (1 : Int32))) (ty := .int) (C := R_M) (T := T_M) (N := 14) hx hb hts in_M ty_M ty_M_ok nm_M hown hK hP hD hS 0 rfl rfl 7 (by decide) (hts _ wm_361) (fun _ h9 => h9) rfl (ty_M_ok 7 (by decide)) rfl rfl (Nat.le_of_ble_eq_true rfl) d_M_write_25 (fun H locs hP hD hS => ?_)
    have hP : va_P D vwC (MW cA aM aG (((upd u1.1.1.1 a ((u1.1.1.1 a) &&& v), u1.1.1.2.1, u1.1.1.2.2.1, (u1.1.1.2.2.2 + (1 : Int32))), u1.1.2), (u1.2.1.1, u1.2.1.2.1, u1.2.1.2.2), (u1.2.2.1, u1.2.2.2.1, u1.2.2.2.2.1, u1.2.2.2.2.2.1, u1.2.2.2.2.2.2.1, u1.2.2.2.2.2.2.2))) H := hP
    have hD : va_D A (MW cA aM aG (((upd u1.1.1.1 a ((u1.1.1.1 a) &&& v), u1.1.1.2.1, u1.1.1.2.2.1, (u1.1.1.2.2.2 + (1 : Int32))), u1.1.2), (u1.2.1.1, u1.2.1.2.1, u1.2.1.2.2), (u1.2.2.1, u1.2.2.2.1, u1.2.2.2.2.1, u1.2.2.2.2.2.1, u1.2.2.2.2.2.2.1, u1.2.2.2.2.2.2.2))) := hD
    refine sw_vret (u := (((upd u1.1.1.1 a ((u1.1.1.1 a) &&& v), u1.1.1.2.1, u1.1.1.2.2.1, (u1.1.1.2.2.2 + (1 : Int32))), u1.1.2), (u1.2.1.1, u1.2.1.2.1, u1.2.1.2.2), (u1.2.2.1, u1.2.2.2.1, u1.2.2.2.2.1, u1.2.2.2.2.2.1, u1.2.2.2.2.2.2.1, u1.2.2.2.2.2.2.2))) hx hb hr hlk hK hP hD hS d_M_write_28 ?_
    have hw := mz_ok h4
    show _ = (pwrite a v st.1, st.2)
    rw [show pwrite a v st.1 = _ from if_neg (show ¬ (pmay st.1).2 = true by rw [hw]; decide), hu1, ← hw] <;> rfl
  · skip
    refine sw_vret (u := u1) hx hb hr hlk hK hP hD hS d_M_write_7 ?_
    show _ = (pwrite a v st.1, st.2)
    rw [show pwrite a v st.1 = pmay st.1 from if_pos (mz_no h4)]
    exact hu1
set_option maxHeartbeats 4000000 in
set_option maxRecDepth 100000 in
theorem k_M_lose (l : Launch) (D : va_G) (cA : ClassId) (aM aG : Nat) (st : Ms) (sz : Nat) : Cv l y_M_lose b_M_lose 1 none 0 D cA (MW cA aM aG) st sz [.ref aM] (fun u => u = mlose st) := by
  refine Cv.enter (by decide) (Nat.le_of_ble_eq_true rfl) ?_
  intro pr en s0 m0 ar bl me co A ls hx hb hml hr hlk hown hts hK hN hA hP hD hS hl
  have hl : lv_has ls 1 [(0, .ref aM)] := hl
  have hown : s0.vm.findClass R_M = some m0.cls := hown
  refine lv_aload_n hx hb d_M_lose_0 rfl (lv_at hl 0 rfl) ?_
  refine lv_iconst (v := 0) hx hb d_M_lose_1 (by decide) ?_
  refine va_put (D := D) (ci := 4) (v := .int (0 : Int32)) (ty := .boolean) (C := R_M) (T := T_M) (N := 14) hx hb hts in_M ty_M ty_M_ok nm_M hown hK hP hD hS 0 rfl rfl 2 (by decide) (hts _ wm_356) (fun _ h9 => h9) rfl (ty_M_ok 2 (by decide)) rfl rfl (Nat.le_of_ble_eq_true rfl) d_M_lose_2 (fun H locs hP hD hS => ?_)
  have hP : va_P D vwC (MW cA aM aG (((st.1.1.1, st.1.1.2.1, st.1.1.2.2.1, st.1.1.2.2.2), st.1.2), (st.2.1.1, false, st.2.1.2.2), (st.2.2.1, st.2.2.2.1, st.2.2.2.2.1, st.2.2.2.2.2.1, st.2.2.2.2.2.2.1, st.2.2.2.2.2.2.2))) H := hP
  have hD : va_D A (MW cA aM aG (((st.1.1.1, st.1.1.2.1, st.1.1.2.2.1, st.1.1.2.2.2), st.1.2), (st.2.1.1, false, st.2.1.2.2), (st.2.2.1, st.2.2.2.1, st.2.2.2.2.1, st.2.2.2.2.2.1, st.2.2.2.2.2.2.1, st.2.2.2.2.2.2.2))) := hD
  refine lv_aload_n hx hb d_M_lose_5 rfl (lv_at hl 0 rfl) ?_
  refine lv_iconst (v := 0) hx hb d_M_lose_6 (by decide) ?_
  refine va_put (D := D) (ci := 4) (v := .int (0 : Int32)) (ty := .int) (C := R_M) (T := T_M) (N := 14) hx hb hts in_M ty_M ty_M_ok nm_M hown hK hP hD hS 0 rfl rfl 3 (by decide) (hts _ wm_357) (fun _ h9 => h9) rfl (ty_M_ok 3 (by decide)) rfl rfl (Nat.le_of_ble_eq_true rfl) d_M_lose_7 (fun H locs hP hD hS => ?_)
  have hP : va_P D vwC (MW cA aM aG (((st.1.1.1, st.1.1.2.1, st.1.1.2.2.1, st.1.1.2.2.2), st.1.2), (st.2.1.1, false, (0 : Int32)), (st.2.2.1, st.2.2.2.1, st.2.2.2.2.1, st.2.2.2.2.2.1, st.2.2.2.2.2.2.1, st.2.2.2.2.2.2.2))) H := hP
  have hD : va_D A (MW cA aM aG (((st.1.1.1, st.1.1.2.1, st.1.1.2.2.1, st.1.1.2.2.2), st.1.2), (st.2.1.1, false, (0 : Int32)), (st.2.2.1, st.2.2.2.1, st.2.2.2.2.1, st.2.2.2.2.2.1, st.2.2.2.2.2.2.1, st.2.2.2.2.2.2.2))) := hD
  refine lv_aload_n hx hb d_M_lose_10 rfl (lv_at hl 0 rfl) ?_
  refine lv_iconst (v := 0) hx hb d_M_lose_11 (by decide) ?_
  refine va_put (D := D) (ci := 4) (v := .int (0 : Int32)) (ty := .int) (C := R_M) (T := T_M) (N := 14) hx hb hts in_M ty_M ty_M_ok nm_M hown hK hP hD hS 0 rfl rfl 8 (by decide) (hts _ wm_362) (fun _ h9 => h9) rfl (ty_M_ok 8 (by decide)) rfl rfl (Nat.le_of_ble_eq_true rfl) d_M_lose_12 (fun H locs hP hD hS => ?_)
  have hP : va_P D vwC (MW cA aM aG (((st.1.1.1, st.1.1.2.1, st.1.1.2.2.1, st.1.1.2.2.2), st.1.2), (st.2.1.1, false, (0 : Int32)), (st.2.2.1, st.2.2.2.1, (0 : Int32), st.2.2.2.2.2.1, st.2.2.2.2.2.2.1, st.2.2.2.2.2.2.2))) H := hP
  have hD : va_D A (MW cA aM aG (((st.1.1.1, st.1.1.2.1, st.1.1.2.2.1, st.1.1.2.2.2), st.1.2), (st.2.1.1, false, (0 : Int32)), (st.2.2.1, st.2.2.2.1, (0 : Int32), st.2.2.2.2.2.1, st.2.2.2.2.2.2.1, st.2.2.2.2.2.2.2))) := hD
  refine lv_aload_n hx hb d_M_lose_15 rfl (lv_at hl 0 rfl) ?_
  refine lv_iconst (v := 0) hx hb d_M_lose_16 (by decide) ?_
  refine va_put (D := D) (ci := 4) (v := .int (0 : Int32)) (ty := .int) (C := R_M) (T := T_M) (N := 14) hx hb hts in_M ty_M ty_M_ok nm_M hown hK hP hD hS 0 rfl rfl 11 (by decide) (hts _ wm_365) (fun _ h9 => h9) rfl (ty_M_ok 11 (by decide)) rfl rfl (Nat.le_of_ble_eq_true rfl) d_M_lose_17 (fun H locs hP hD hS => ?_)
  have hP : va_P D vwC (MW cA aM aG (((st.1.1.1, st.1.1.2.1, st.1.1.2.2.1, st.1.1.2.2.2), st.1.2), (st.2.1.1, false, (0 : Int32)), (st.2.2.1, st.2.2.2.1, (0 : Int32), (0 : Int32), st.2.2.2.2.2.2.1, st.2.2.2.2.2.2.2))) H := hP
  have hD : va_D A (MW cA aM aG (((st.1.1.1, st.1.1.2.1, st.1.1.2.2.1, st.1.1.2.2.2), st.1.2), (st.2.1.1, false, (0 : Int32)), (st.2.2.1, st.2.2.2.1, (0 : Int32), (0 : Int32), st.2.2.2.2.2.2.1, st.2.2.2.2.2.2.2))) := hD
  refine sw_vret (u := (((st.1.1.1, st.1.1.2.1, st.1.1.2.2.1, st.1.1.2.2.2), st.1.2), (st.2.1.1, false, (0 : Int32)), (st.2.2.1, st.2.2.2.1, (0 : Int32), (0 : Int32), st.2.2.2.2.2.2.1, st.2.2.2.2.2.2.2))) hx hb hr hlk hK hP hD hS d_M_lose_20 ?_
  rfl
set_option maxHeartbeats 4000000 in
set_option maxRecDepth 100000 in
theorem k_M_answer (l : Launch) (D : va_G) (cA : ClassId) (aM aG : Nat) (st : Ms) (sz : Nat) (v : Int32) : Ci l y_M_answer b_M_answer 2 (some .int) 1 D cA (MW cA aM aG) st sz [.ref aM, .int v] (fun r u => r = (mans v st).1 ∧ u = (mans v st).2) := by
  refine Ci.enter (by decide) (Nat.le_of_ble_eq_true rfl) ?_
  intro pr en s0 m0 ar bl me co A ls hx hb hml hr hlk hown hts hK hN hA hP hD hS hl
  have hl : lv_has ls 2 [(0, .ref aM), (1, .int v)] := hl
  have hown : s0.vm.findClass R_M = some m0.cls := hown
  refine lv_aload_n hx hb d_M_answer_0 rfl (lv_at hl 0 rfl) ?_
  refine va_get (D := D) (ci := 4) (v := .int (b2i (st.1.2))) (C := R_M) (T := T_M) (N := 14) hx hb hts in_M hown hK hP 0 rfl rfl 5 (by decide) (hts _ wm_359) (fun _ h9 => h9) rfl d_M_answer_1 ?_
  refine sw_bz_ne (tgt := 9) hx hb d_M_answer_4 (by decide) (fun h4 => ?_) (fun h4 => ?_)
  · skip
    refine lv_aload_n hx hb d_M_answer_9 rfl (lv_at hl 0 rfl) ?_
    refine sw_callVv (rest := []) 0 4 [] hx hb hml hown hts hK hN hA hP hD hS (k_M_lose l D cA aM aG st _) cw_M_46 rfl rfl rfl ⟨Nat.le_of_ble_eq_true rfl, Nat.le_of_ble_eq_true rfl⟩ hl.1 rfl rfl (Nat.le_of_ble_eq_true rfl) d_M_answer_10 (fun u10 H locs hq10 hP hD hS => ?_)
    have hu10 : u10 = mlose st := hq10
    refine lv_bipush (v := -2) hx hb d_M_answer_13 (by decide) ?_
    refine sw_iret (u := u10) (v := (-2 : Int32)) hx hb hr hlk hK hP hD hS d_M_answer_15 rfl ?_
    rw [show mans v st = (-2, mlose st) from if_pos h4]
    exact ⟨rfl, hu10⟩
  · skip
    refine lv_iload_n hx hb d_M_answer_7 rfl (lv_at hl 1 rfl) ?_
    refine sw_iret (u := st) (v := v) hx hb hr hlk hK hP hD hS d_M_answer_8 rfl ?_
    rw [show mans v st = (v, st) from if_neg (show ¬ st.1.2 = true by rw [h4]; decide)]
    exact ⟨rfl, rfl⟩
set_option maxHeartbeats 4000000 in
set_option maxRecDepth 100000 in
theorem k_M_sum (l : Launch) (D : va_G) (cA : ClassId) (aM aG : Nat) (st : Ms) (sz : Nat) (a : Nat) (v : Int32) (n : Nat) (h4 : 4 ≤ n) (h : a + n ≤ 240) : Ci l y_M_sum b_M_sum 6 (some .int) 0 D cA (MW cA aM aG) st sz [.ref aM, .int (nI a), .int v, .int (nI n)] (fun r u => r = psum st.1.1.1 a v n ∧ u = st) := by
  refine Ci.enter (by decide) (Nat.le_of_ble_eq_true rfl) ?_
  intro pr en s0 m0 ar bl me co A ls hx hb hml hr hlk hown hts hK hN hA hP hD hS hl
  have hl : lv_has ls 6 [(0, .ref aM), (1, .int (nI a)), (2, .int v), (3, .int (nI n))] := hl
  have hown : s0.vm.findClass R_M = some m0.cls := hown
  refine lv_bipush (v := 31) hx hb d_M_sum_0 (by decide) ?_
  refine lv_sipush (v := 217) hx hb d_M_sum_2 (by decide) ?_
  refine lv_iload_n hx hb d_M_sum_5 rfl (lv_at hl 2 rfl) ?_
  refine lv_iadd hx hb d_M_sum_6 ?_
  refine lv_imul hx hb d_M_sum_7 ?_
  refine lv_iload_n hx hb d_M_sum_8 rfl (lv_at hl 3 rfl) ?_
  refine lv_iadd hx hb d_M_sum_9 ?_
  refine lv_sipush (v := 255) hx hb d_M_sum_10 (by decide) ?_
  refine lv_iand hx hb d_M_sum_13 ?_
  refine lv_istore hx hb d_M_sum_14 hl (by decide) rfl (fun ls hl => ?_)
  have hl : lv_has ls 6 [(4, .int ((((31 : Int32) * ((217 : Int32) + v)) + (nI n)) &&& (255 : Int32))), (0, .ref aM), (1, .int (nI a)), (2, .int v), (3, .int (nI n))] := hl
  refine lv_iconst (v := 4) hx hb d_M_sum_16 (by decide) ?_
  refine lv_istore hx hb d_M_sum_17 hl (by decide) rfl (fun ls hl => ?_)
  have hl : lv_has ls 6 [(5, .int (4 : Int32)), (4, .int ((((31 : Int32) * ((217 : Int32) + v)) + (nI n)) &&& (255 : Int32))), (0, .ref aM), (1, .int (nI a)), (2, .int v), (3, .int (nI n))] := hl
  have loop : ∀ (d : Nat) (i : Nat) (x : Int32) (H : Heap) (locs : List Loc) (ls : Array Slot), n - i = d → i ≤ n → psml st.1.1.1 a (n - i) i x = psum st.1.1.1 a v n → lv_has ls 6 [(5, .int (nI i)), (4, .int x), (0, .ref aM), (1, .int (nI a)), (2, .int v), (3, .int (nI n))] → va_P D vwC (MW cA aM aG st) H → va_D A (MW cA aM aG st) → va_S A s0.heap H locs → W pr l en (lvr 0) s0 m0 ar bl me co H locs 0 0 (MQ bl (va_Qi (fun r u => r = psum st.1.1.1 a v n ∧ u = st) (sw_B D cA A (MW cA aM aG)) A) ar s0 0 0 A) (F0 m0 19 ls []) := by
    intro d
    induction d using Nat.strongRecOn with
    | ind d ih =>
      intro i x H locs ls hd hi hT hl hP hD hS
      refine lv_iload hx hb d_M_sum_19 (lv_at hl 0 rfl) ?_
      refine lv_iload_n hx hb d_M_sum_21 rfl (lv_at hl 5 rfl) ?_
      refine sw_nc_ge (a := i) (b := n) (tgt := 52) hx hb (by omega) (by omega) d_M_sum_22 (by decide) (fun h22 => ?_) (fun h22 => ?_)
      · skip
        refine lv_iload hx hb d_M_sum_52 (lv_at hl 1 rfl) ?_
        refine sw_iret (u := st) (v := x) hx hb hr hlk hK hP hD hS d_M_sum_54 rfl ?_
        have hi : i = n := by omega
        subst hi
        rw [Nat.sub_self, psml_0] at hT
        exact ⟨hT, rfl⟩
      · skip
        refine lv_bipush (v := 31) hx hb d_M_sum_25 (by decide) ?_
        refine lv_iload hx hb d_M_sum_27 (lv_at hl 1 rfl) ?_
        refine lv_imul hx hb d_M_sum_29 ?_
        refine lv_aload_n hx hb d_M_sum_30 rfl (lv_at hl 2 rfl) ?_
        refine va_get (D := D) (ci := 4) (v := .ref aG) (C := R_M) (T := T_M) (N := 14) hx hb hts in_M hown hK hP 0 rfl rfl 1 (by decide) (hts _ wm_355) (fun _ h9 => h9) rfl d_M_sum_31 ?_
        refine lv_iload_n hx hb d_M_sum_34 rfl (lv_at hl 3 rfl) ?_
        refine lv_iload hx hb d_M_sum_35 (lv_at hl 0 rfl) ?_
        refine lv_iadd hx hb d_M_sum_37 ?_
        refine sw_tp (y := nI (a + i)) (nI_add a i) ?_
        refine sw_ald (n := a + i) (f := st.1.1.1) hx hb hK hP 1 0 rfl rfl (by omega) (by decide) d_M_sum_38 ?_
        refine lv_iadd hx hb d_M_sum_39 ?_
        refine lv_sipush (v := 255) hx hb d_M_sum_40 (by decide) ?_
        refine lv_iand hx hb d_M_sum_43 ?_
        refine lv_istore hx hb d_M_sum_44 hl (by decide) rfl (fun ls hl => ?_)
        have hl : lv_has ls 6 [(4, .int ((((31 : Int32) * x) + (st.1.1.1 (a + i))) &&& (255 : Int32))), (5, .int (nI i)), (0, .ref aM), (1, .int (nI a)), (2, .int v), (3, .int (nI n))] := hl
        refine lv_iinc (k := 1) (v := nI (i + 1)) hx hb d_M_sum_46 hl rfl (nI_1 _) (by decide) rfl (fun ls hl => ?_)
        have hl : lv_has ls 6 [(5, .int (nI (i + 1))), (4, .int ((((31 : Int32) * x) + (st.1.1.1 (a + i))) &&& (255 : Int32))), (0, .ref aM), (1, .int (nI a)), (2, .int v), (3, .int (nI n))] := hl
        refine lv_goto (tgt := 19) hx hb d_M_sum_49 (by decide) ?_
        exact ih (n - (i + 1)) (by omega) (i + 1) _ _ _ _ rfl (by omega) ((psml_s (i := i) (by omega)).symm.trans hT) (lv_sub hl [0, 1, 2, 3, 4, 5] rfl) hP hD hS
  exact loop _ 4 _ _ _ _ rfl h4 (psum_m _ _ _ _) (lv_sub hl [0, 1, 2, 3, 4, 5] rfl) hP hD hS
set_option maxHeartbeats 4000000 in
set_option maxRecDepth 100000 in
theorem k_M_isVersion (l : Launch) (D : va_G) (cA : ClassId) (aM aG : Nat) (st : Ms) (sz : Nat) (v : Int32) : Ci l y_M_isVersion b_M_isVersion 1 (some .boolean) 0 D cA (MW cA aM aG) st sz [.int v] (fun r u => r = b2i (pver v) ∧ u = st) := by
  refine Ci.enter (by decide) (Nat.le_of_ble_eq_true rfl) ?_
  intro pr en s0 m0 ar bl me co A ls hx hb hml hr hlk hown hts hK hN hA hP hD hS hl
  have hl : lv_has ls 1 [(0, .int v)] := hl
  have hown : s0.vm.findClass R_M = some m0.cls := hown
  refine lv_iload_n hx hb d_M_isVersion_0 rfl (lv_at hl 0 rfl) ?_
  refine lv_iconst (v := 1) hx hb d_M_isVersion_1 (by decide) ?_
  refine lv_icmp_lt (tgt := 16) hx hb d_M_isVersion_2 (by decide) (fun h2 => ?_) (fun h2 => ?_)
  · skip
    refine lv_iconst (v := 0) hx hb d_M_isVersion_16 (by decide) ?_
    refine sw_iret (u := st) (v := (0 : Int32)) hx hb hr hlk hK hP hD hS d_M_isVersion_17 rfl ?_
    exact ⟨b2i_f (fun q => q.1 h2), rfl⟩
  · skip
    refine lv_iload_n hx hb d_M_isVersion_5 rfl (lv_at hl 0 rfl) ?_
    refine lv_sipush (v := 250) hx hb d_M_isVersion_6 (by decide) ?_
    refine lv_icmp_gt (tgt := 16) hx hb d_M_isVersion_9 (by decide) (fun h9 => ?_) (fun h9 => ?_)
    · skip
      refine lv_iconst (v := 0) hx hb d_M_isVersion_16 (by decide) ?_
      refine sw_iret (u := st) (v := (0 : Int32)) hx hb hr hlk hK hP hD hS d_M_isVersion_17 rfl ?_
      exact ⟨b2i_f (fun q => q.2 h9), rfl⟩
    · skip
      refine lv_iconst (v := 1) hx hb d_M_isVersion_12 (by decide) ?_
      refine lv_goto (tgt := 17) hx hb d_M_isVersion_13 (by decide) ?_
      refine sw_iret (u := st) (v := (1 : Int32)) hx hb hr hlk hK hP hD hS d_M_isVersion_17 rfl ?_
      exact ⟨b2i_t ⟨h2, h9⟩, rfl⟩
set_option maxHeartbeats 4000000 in
set_option maxRecDepth 100000 in
theorem k_M_isLength (l : Launch) (D : va_G) (cA : ClassId) (aM aG : Nat) (st : Ms) (sz : Nat) (n : Int32) : Ci l y_M_isLength b_M_isLength 1 (some .boolean) 0 D cA (MW cA aM aG) st sz [.int n] (fun r u => r = b2i (plen n) ∧ u = st) := by
  refine Ci.enter (by decide) (Nat.le_of_ble_eq_true rfl) ?_
  intro pr en s0 m0 ar bl me co A ls hx hb hml hr hlk hown hts hK hN hA hP hD hS hl
  have hl : lv_has ls 1 [(0, .int n)] := hl
  have hown : s0.vm.findClass R_M = some m0.cls := hown
  refine lv_iload_n hx hb d_M_isLength_0 rfl (lv_at hl 0 rfl) ?_
  refine lv_bipush (v := 8) hx hb d_M_isLength_1 (by decide) ?_
  refine lv_icmp_lt (tgt := 16) hx hb d_M_isLength_3 (by decide) (fun h3 => ?_) (fun h3 => ?_)
  · skip
    refine lv_iconst (v := 0) hx hb d_M_isLength_16 (by decide) ?_
    refine sw_iret (u := st) (v := (0 : Int32)) hx hb hr hlk hK hP hD hS d_M_isLength_17 rfl ?_
    exact ⟨b2i_f (fun q => q.1 h3), rfl⟩
  · skip
    refine lv_iload_n hx hb d_M_isLength_6 rfl (lv_at hl 0 rfl) ?_
    refine lv_bipush (v := 96) hx hb d_M_isLength_7 (by decide) ?_
    refine lv_icmp_gt (tgt := 16) hx hb d_M_isLength_9 (by decide) (fun h9 => ?_) (fun h9 => ?_)
    · skip
      refine lv_iconst (v := 0) hx hb d_M_isLength_16 (by decide) ?_
      refine sw_iret (u := st) (v := (0 : Int32)) hx hb hr hlk hK hP hD hS d_M_isLength_17 rfl ?_
      exact ⟨b2i_f (fun q => q.2 h9), rfl⟩
    · skip
      refine lv_iconst (v := 1) hx hb d_M_isLength_12 (by decide) ?_
      refine lv_goto (tgt := 17) hx hb d_M_isLength_13 (by decide) ?_
      refine sw_iret (u := st) (v := (1 : Int32)) hx hb hr hlk hK hP hD hS d_M_isLength_17 rfl ?_
      exact ⟨b2i_t ⟨h3, h9⟩, rfl⟩
set_option maxHeartbeats 4000000 in
set_option maxRecDepth 100000 in
theorem k_M_image (l : Launch) (D : va_G) (cA : ClassId) (aM aG : Nat) (st : Ms) (sz : Nat) (a : Nat) (h : a + 96 ≤ 240) : Ci l y_M_image b_M_image 5 (some .int) 1 D cA (MW cA aM aG) st sz [.ref aM, .int (nI a)] (fun r u => r = pimg st.1.1.1 a ∧ u = st) := by
  refine Ci.enter (by decide) (Nat.le_of_ble_eq_true rfl) ?_
  intro pr en s0 m0 ar bl me co A ls hx hb hml hr hlk hown hts hK hN hA hP hD hS hl
  have hl : lv_has ls 5 [(0, .ref aM), (1, .int (nI a))] := hl
  have hown : s0.vm.findClass R_M = some m0.cls := hown
  refine lv_aload_n hx hb d_M_image_0 rfl (lv_at hl 0 rfl) ?_
  refine va_get (D := D) (ci := 4) (v := .ref aG) (C := R_M) (T := T_M) (N := 14) hx hb hts in_M hown hK hP 0 rfl rfl 1 (by decide) (hts _ wm_355) (fun _ h9 => h9) rfl d_M_image_1 ?_
  refine lv_iload_n hx hb d_M_image_4 rfl (lv_at hl 1 rfl) ?_
  refine lv_iconst (v := 1) hx hb d_M_image_5 (by decide) ?_
  refine lv_iadd hx hb d_M_image_6 ?_
  refine sw_tp (y := nI (a + 1)) (nI_add a 1) ?_
  refine sw_ald (n := a + 1) (f := st.1.1.1) hx hb hK hP 1 0 rfl rfl (by omega) (by decide) d_M_image_7 ?_
  refine lv_istore_n hx hb d_M_image_8 rfl hl (by decide) rfl (fun ls hl => ?_)
  have hl : lv_has ls 5 [(2, .int (st.1.1.1 (a + 1))), (0, .ref aM), (1, .int (nI a))] := hl
  refine lv_aload_n hx hb d_M_image_9 rfl (lv_at hl 1 rfl) ?_
  refine va_get (D := D) (ci := 4) (v := .ref aG) (C := R_M) (T := T_M) (N := 14) hx hb hts in_M hown hK hP 0 rfl rfl 1 (by decide) (hts _ wm_355) (fun _ h9 => h9) rfl d_M_image_10 ?_
  refine lv_iload_n hx hb d_M_image_13 rfl (lv_at hl 2 rfl) ?_
  refine lv_iconst (v := 2) hx hb d_M_image_14 (by decide) ?_
  refine lv_iadd hx hb d_M_image_15 ?_
  refine sw_tp (y := nI (a + 2)) (nI_add a 2) ?_
  refine sw_ald (n := a + 2) (f := st.1.1.1) hx hb hK hP 1 0 rfl rfl (by omega) (by decide) d_M_image_16 ?_
  refine lv_istore_n hx hb d_M_image_17 rfl hl (by decide) rfl (fun ls hl => ?_)
  have hl : lv_has ls 5 [(3, .int (st.1.1.1 (a + 2))), (2, .int (st.1.1.1 (a + 1))), (0, .ref aM), (1, .int (nI a))] := hl
  refine lv_aload_n hx hb d_M_image_18 rfl (lv_at hl 2 rfl) ?_
  refine va_get (D := D) (ci := 4) (v := .ref aG) (C := R_M) (T := T_M) (N := 14) hx hb hts in_M hown hK hP 0 rfl rfl 1 (by decide) (hts _ wm_355) (fun _ h9 => h9) rfl d_M_image_19 ?_
  refine lv_iload_n hx hb d_M_image_22 rfl (lv_at hl 3 rfl) ?_
  refine sw_ald (n := a) (f := st.1.1.1) hx hb hK hP 1 0 rfl rfl (by omega) (by decide) d_M_image_23 ?_
  refine lv_sipush (v := 165) hx hb d_M_image_24 (by decide) ?_
  refine lv_icmp_ne (tgt := 66) hx hb d_M_image_27 (by decide) (fun h27 => ?_) (fun h27 => ?_)
  · skip
    refine lv_iconst (v := 0) hx hb d_M_image_66 (by decide) ?_
    refine lv_istore hx hb d_M_image_67 hl (by decide) rfl (fun ls hl => ?_)
    have hl : lv_has ls 5 [(4, .int (0 : Int32)), (3, .int (st.1.1.1 (a + 2))), (2, .int (st.1.1.1 (a + 1))), (0, .ref aM), (1, .int (nI a))] := hl
    refine lv_iload hx hb d_M_image_69 (lv_at hl 0 rfl) ?_
    refine lv_if_eq (tgt := 78) hx hb d_M_image_71 (by decide) (fun _ => ?_) (fun h => absurd h (by decide))
    refine lv_iconst (v := 0) hx hb d_M_image_78 (by decide) ?_
    refine sw_iret (u := st) (v := (0 : Int32)) hx hb hr hlk hK hP hD hS d_M_image_79 rfl ?_
    rw [pimg_no (fun q => h27 q.1)]
    exact ⟨rfl, rfl⟩
  · skip
    refine lv_iload_n hx hb d_M_image_30 rfl (lv_at hl 1 rfl) ?_
    refine sw_callSi (rest := []) [.int (st.1.1.1 (a + 1))] hx hb hml hown hts hK hN hA hP hD hS (k_M_isVersion l D cA aM aG st _ (st.1.1.1 (a + 1))) cw_M_49 ⟨Nat.le_of_ble_eq_true rfl, Nat.le_of_ble_eq_true rfl⟩ hl.1 rfl rfl (Nat.le_of_ble_eq_true rfl) d_M_image_31 (fun r31 u31 H locs hq31 hP hD hS => ?_)
    obtain ⟨hr31, hq31⟩ := hq31
    rw [hr31]
    rw [hq31] at hP hD
    refine sw_bz_eq (tgt := 66) hx hb d_M_image_34 (by decide) (fun h34 => ?_) (fun h34 => ?_)
    · skip
      refine lv_iconst (v := 0) hx hb d_M_image_66 (by decide) ?_
      refine lv_istore hx hb d_M_image_67 hl (by decide) rfl (fun ls hl => ?_)
      have hl : lv_has ls 5 [(4, .int (0 : Int32)), (3, .int (st.1.1.1 (a + 2))), (2, .int (st.1.1.1 (a + 1))), (0, .ref aM), (1, .int (nI a))] := hl
      refine lv_iload hx hb d_M_image_69 (lv_at hl 0 rfl) ?_
      refine lv_if_eq (tgt := 78) hx hb d_M_image_71 (by decide) (fun _ => ?_) (fun h => absurd h (by decide))
      refine lv_iconst (v := 0) hx hb d_M_image_78 (by decide) ?_
      refine sw_iret (u := st) (v := (0 : Int32)) hx hb hr hlk hK hP hD hS d_M_image_79 rfl ?_
      rw [pimg_no (fun q => by have q2 := (psize_and.mp q.2.1).1; rw [h34] at q2; cases q2)]
      exact ⟨rfl, rfl⟩
    · skip
      refine lv_iload_n hx hb d_M_image_37 rfl (lv_at hl 0 rfl) ?_
      refine sw_callSi (rest := []) [.int (st.1.1.1 (a + 2))] hx hb hml hown hts hK hN hA hP hD hS (k_M_isLength l D cA aM aG st _ (st.1.1.1 (a + 2))) cw_M_53 ⟨Nat.le_of_ble_eq_true rfl, Nat.le_of_ble_eq_true rfl⟩ hl.1 rfl rfl (Nat.le_of_ble_eq_true rfl) d_M_image_38 (fun r38 u38 H locs hq38 hP hD hS => ?_)
      obtain ⟨hr38, hq38⟩ := hq38
      rw [hr38]
      rw [hq38] at hP hD
      refine sw_bz_eq (tgt := 66) hx hb d_M_image_41 (by decide) (fun h41 => ?_) (fun h41 => ?_)
      · skip
        refine lv_iconst (v := 0) hx hb d_M_image_66 (by decide) ?_
        refine lv_istore hx hb d_M_image_67 hl (by decide) rfl (fun ls hl => ?_)
        have hl : lv_has ls 5 [(4, .int (0 : Int32)), (3, .int (st.1.1.1 (a + 2))), (2, .int (st.1.1.1 (a + 1))), (0, .ref aM), (1, .int (nI a))] := hl
        refine lv_iload hx hb d_M_image_69 (lv_at hl 0 rfl) ?_
        refine lv_if_eq (tgt := 78) hx hb d_M_image_71 (by decide) (fun _ => ?_) (fun h => absurd h (by decide))
        refine lv_iconst (v := 0) hx hb d_M_image_78 (by decide) ?_
        refine sw_iret (u := st) (v := (0 : Int32)) hx hb hr hlk hK hP hD hS d_M_image_79 rfl ?_
        rw [pimg_no (fun q => by have q2 := (psize_and.mp q.2.1).2; rw [h41] at q2; cases q2)]
        exact ⟨rfl, rfl⟩
      · skip
        obtain ⟨n3, hn3, hn4, hn5⟩ : ∃ k : Nat, st.1.1.1 (a + 2) = nI k ∧ 8 ≤ k ∧ k ≤ 96 := plen_n h41
        refine lv_aload_n hx hb d_M_image_44 rfl (lv_at hl 2 rfl) ?_
        refine va_get (D := D) (ci := 4) (v := .ref aG) (C := R_M) (T := T_M) (N := 14) hx hb hts in_M hown hK hP 0 rfl rfl 1 (by decide) (hts _ wm_355) (fun _ h9 => h9) rfl d_M_image_45 ?_
        refine lv_iload_n hx hb d_M_image_48 rfl (lv_at hl 3 rfl) ?_
        refine lv_iconst (v := 3) hx hb d_M_image_49 (by decide) ?_
        refine lv_iadd hx hb d_M_image_50 ?_
        refine sw_tp (y := nI (a + 3)) (nI_add a 3) ?_
        refine sw_ald (n := a + 3) (f := st.1.1.1) hx hb hK hP 1 0 rfl rfl (by omega) (by decide) d_M_image_51 ?_
        refine lv_aload_n hx hb d_M_image_52 rfl (lv_at hl 2 rfl) ?_
        refine lv_iload_n hx hb d_M_image_53 rfl (lv_at hl 3 rfl) ?_
        refine lv_iload_n hx hb d_M_image_54 rfl (lv_at hl 1 rfl) ?_
        refine lv_iload_n hx hb d_M_image_55 rfl (lv_at hl 0 rfl) ?_
        refine sw_tp (y := nI n3) hn3 ?_
        refine sw_callVi (rest := [.int (st.1.1.1 (a + 3))]) 0 4 [.int (nI a), .int (st.1.1.1 (a + 1)), .int (nI n3)] hx hb hml hown hts hK hN hA hP hD hS (k_M_sum l D cA aM aG st _ a (st.1.1.1 (a + 1)) n3 (by omega) (by omega)) cw_M_56 rfl rfl rfl ⟨Nat.le_of_ble_eq_true rfl, Nat.le_of_ble_eq_true rfl⟩ hl.1 rfl rfl (Nat.le_of_ble_eq_true rfl) d_M_image_56 (fun r56 u56 H locs hq56 hP hD hS => ?_)
        obtain ⟨hr56, hq56⟩ := hq56
        rw [hr56]
        rw [hq56] at hP hD
        refine lv_icmp_ne (tgt := 66) hx hb d_M_image_59 (by decide) (fun h59 => ?_) (fun h59 => ?_)
        · skip
          refine lv_iconst (v := 0) hx hb d_M_image_66 (by decide) ?_
          refine lv_istore hx hb d_M_image_67 hl (by decide) rfl (fun ls hl => ?_)
          have hl : lv_has ls 5 [(4, .int (0 : Int32)), (3, .int (st.1.1.1 (a + 2))), (2, .int (st.1.1.1 (a + 1))), (0, .ref aM), (1, .int (nI a))] := hl
          refine lv_iload hx hb d_M_image_69 (lv_at hl 0 rfl) ?_
          refine lv_if_eq (tgt := 78) hx hb d_M_image_71 (by decide) (fun _ => ?_) (fun h => absurd h (by decide))
          refine lv_iconst (v := 0) hx hb d_M_image_78 (by decide) ?_
          refine sw_iret (u := st) (v := (0 : Int32)) hx hb hr hlk hK hP hD hS d_M_image_79 rfl ?_
          rw [pimg_no (fun q => h59 (by have q3 := q.2.2; rw [hn3, nI_clamp (show n3 < 2 ^ 31 by omega)] at q3; exact q3))]
          exact ⟨rfl, rfl⟩
        · skip
          refine lv_iconst (v := 1) hx hb d_M_image_62 (by decide) ?_
          refine lv_goto (tgt := 67) hx hb d_M_image_63 (by decide) ?_
          refine lv_istore hx hb d_M_image_67 hl (by decide) rfl (fun ls hl => ?_)
          have hl : lv_has ls 5 [(4, .int (1 : Int32)), (3, .int (st.1.1.1 (a + 2))), (2, .int (st.1.1.1 (a + 1))), (0, .ref aM), (1, .int (nI a))] := hl
          refine lv_iload hx hb d_M_image_69 (lv_at hl 0 rfl) ?_
          refine lv_if_eq (tgt := 78) hx hb d_M_image_71 (by decide) (fun h => absurd h (by decide)) (fun _ => ?_)
          refine lv_iload_n hx hb d_M_image_74 rfl (lv_at hl 2 rfl) ?_
          refine lv_goto (tgt := 79) hx hb d_M_image_75 (by decide) ?_
          refine sw_iret (u := st) (v := (st.1.1.1 (a + 1))) hx hb hr hlk hK hP hD hS d_M_image_79 rfl ?_
          rw [pimg_yes h27 (psize_and.mpr ⟨h34, h41⟩) (by rw [h59, hn3, nI_clamp (show n3 < 2 ^ 31 by omega)])]
          exact ⟨rfl, rfl⟩
set_option maxHeartbeats 4000000 in
set_option maxRecDepth 100000 in
theorem k_M_isDone (l : Launch) (D : va_G) (cA : ClassId) (aM aG : Nat) (st : Ms) (sz : Nat) (g k : Nat) (hg : g < 15) (h : k < 18) : Ci l y_M_isDone b_M_isDone 3 (some .boolean) 0 D cA (MW cA aM aG) st sz [.ref aM, .int (nI (g * 16)), .int (nI k)] (fun r u => r = b2i (pdone st.1.1.1 g k) ∧ u = st) := by
  refine Ci.enter (by decide) (Nat.le_of_ble_eq_true rfl) ?_
  intro pr en s0 m0 ar bl me co A ls hx hb hml hr hlk hown hts hK hN hA hP hD hS hl
  have hl : lv_has ls 3 [(0, .ref aM), (1, .int (nI (g * 16))), (2, .int (nI k))] := hl
  have hown : s0.vm.findClass R_M = some m0.cls := hown
  refine lv_aload_n hx hb d_M_isDone_0 rfl (lv_at hl 0 rfl) ?_
  refine va_get (D := D) (ci := 4) (v := .ref aG) (C := R_M) (T := T_M) (N := 14) hx hb hts in_M hown hK hP 0 rfl rfl 1 (by decide) (hts _ wm_355) (fun _ h9 => h9) rfl d_M_isDone_1 ?_
  refine lv_iload_n hx hb d_M_isDone_4 rfl (lv_at hl 1 rfl) ?_
  refine lv_iconst (v := 4) hx hb d_M_isDone_5 (by decide) ?_
  refine lv_iadd hx hb d_M_isDone_6 ?_
  refine sw_tp (y := nI ((g * 16) + 4)) (nI_add (g * 16) 4) ?_
  refine lv_iload_n hx hb d_M_isDone_7 rfl (lv_at hl 2 rfl) ?_
  refine lv_bipush (v := 8) hx hb d_M_isDone_8 (by decide) ?_
  refine lv_idiv hx hb d_M_isDone_10 (by decide) ?_
  refine sw_tp (y := nI (k / 8)) (pk_div (a := k) (d := 8) (by omega) (by decide) (by decide)) ?_
  refine lv_iadd hx hb d_M_isDone_11 ?_
  refine sw_tp (y := nI (((g * 16) + 4) + (k / 8))) (nI_add ((g * 16) + 4) (k / 8)) ?_
  refine sw_tp (y := nI (g * 16 + (4 + k / 8))) (niE (Nat.add_assoc _ _ _)) ?_
  refine sw_ald (n := g * 16 + (4 + k / 8)) (f := st.1.1.1) hx hb hK hP 1 0 rfl rfl (by omega) (by decide) d_M_isDone_12 ?_
  refine lv_iload_n hx hb d_M_isDone_13 rfl (lv_at hl 2 rfl) ?_
  refine lv_bipush (v := 8) hx hb d_M_isDone_14 (by decide) ?_
  refine lv_irem hx hb d_M_isDone_16 (by decide) ?_
  refine sw_tp (y := nI (k % 8)) (pk_rem (a := k) (d := 8) (by omega) (by decide) (by decide)) ?_
  refine lv_ishr hx hb d_M_isDone_17 ?_
  refine lv_iconst (v := 1) hx hb d_M_isDone_18 (by decide) ?_
  refine lv_iand hx hb d_M_isDone_19 ?_
  refine lv_if_ne (tgt := 27) hx hb d_M_isDone_20 (by decide) (fun h20 => ?_) (fun h20 => ?_)
  · skip
    refine lv_iconst (v := 0) hx hb d_M_isDone_27 (by decide) ?_
    refine sw_iret (u := st) (v := (0 : Int32)) hx hb hr hlk hK hP hD hS d_M_isDone_28 rfl ?_
    exact ⟨b2i_f (fun q => h20 ((pbit_iff _ k h).mpr q)), rfl⟩
  · skip
    refine lv_iconst (v := 1) hx hb d_M_isDone_23 (by decide) ?_
    refine lv_goto (tgt := 28) hx hb d_M_isDone_24 (by decide) ?_
    refine sw_iret (u := st) (v := (1 : Int32)) hx hb hr hlk hK hP hD hS d_M_isDone_28 rfl ?_
    exact ⟨b2i_t ((pbit_iff _ k h).mp h20), rfl⟩
set_option maxHeartbeats 4000000 in
set_option maxRecDepth 100000 in
theorem k_M_stepsDone (l : Launch) (D : va_G) (cA : ClassId) (aM aG : Nat) (st : Ms) (sz : Nat) (g : Nat) (hg : g < 15) : Ci l y_M_stepsDone b_M_stepsDone 4 (some .int) 1 D cA (MW cA aM aG) st sz [.ref aM, .int (nI (g * 16))] (fun r u => r = nI (pcnt st.1.1.1 g 18 0 0) ∧ u = st) := by
  refine Ci.enter (by decide) (Nat.le_of_ble_eq_true rfl) ?_
  intro pr en s0 m0 ar bl me co A ls hx hb hml hr hlk hown hts hK hN hA hP hD hS hl
  have hl : lv_has ls 4 [(0, .ref aM), (1, .int (nI (g * 16)))] := hl
  have hown : s0.vm.findClass R_M = some m0.cls := hown
  refine lv_iconst (v := 0) hx hb d_M_stepsDone_0 (by decide) ?_
  refine lv_istore_n hx hb d_M_stepsDone_1 rfl hl (by decide) rfl (fun ls hl => ?_)
  have hl : lv_has ls 4 [(2, .int (0 : Int32)), (0, .ref aM), (1, .int (nI (g * 16)))] := hl
  refine lv_iconst (v := 0) hx hb d_M_stepsDone_2 (by decide) ?_
  refine lv_istore_n hx hb d_M_stepsDone_3 rfl hl (by decide) rfl (fun ls hl => ?_)
  have hl : lv_has ls 4 [(3, .int (0 : Int32)), (2, .int (0 : Int32)), (0, .ref aM), (1, .int (nI (g * 16)))] := hl
  have loop : ∀ (d : Nat) (k : Nat) (n : Nat) (H : Heap) (locs : List Loc) (ls : Array Slot), 18 - k = d → k ≤ 18 → pcnt st.1.1.1 g (18 - k) k n = pcnt st.1.1.1 g 18 0 0 → lv_has ls 4 [(3, .int (nI k)), (2, .int (nI n)), (0, .ref aM), (1, .int (nI (g * 16)))] → va_P D vwC (MW cA aM aG st) H → va_D A (MW cA aM aG st) → va_S A s0.heap H locs → W pr l en (lvr 1) s0 m0 ar bl me co H locs 0 0 (MQ bl (va_Qi (fun r u => r = nI (pcnt st.1.1.1 g 18 0 0) ∧ u = st) (sw_B D cA A (MW cA aM aG)) A) ar s0 0 0 A) (F0 m0 4 ls []) := by
    intro d
    induction d using Nat.strongRecOn with
    | ind d ih =>
      intro k n H locs ls hd hk hT hl hP hD hS
      refine lv_iload_n hx hb d_M_stepsDone_4 rfl (lv_at hl 0 rfl) ?_
      refine lv_bipush (v := 18) hx hb d_M_stepsDone_5 (by decide) ?_
      refine sw_nc_ge (a := k) (b := 18) (tgt := 33) hx hb (by omega) (by omega) d_M_stepsDone_7 (by decide) (fun h7 => ?_) (fun h7 => ?_)
      · skip
        refine lv_iload_n hx hb d_M_stepsDone_33 rfl (lv_at hl 1 rfl) ?_
        refine sw_iret (u := st) (v := nI n) hx hb hr hlk hK hP hD hS d_M_stepsDone_34 rfl ?_
        have hk : k = 18 := by omega
        subst hk
        exact ⟨congrArg nI (pcnt_0.symm.trans hT), rfl⟩
      · skip
        refine lv_iload_n hx hb d_M_stepsDone_10 rfl (lv_at hl 1 rfl) ?_
        refine lv_aload_n hx hb d_M_stepsDone_11 rfl (lv_at hl 2 rfl) ?_
        refine lv_iload_n hx hb d_M_stepsDone_12 rfl (lv_at hl 3 rfl) ?_
        refine lv_iload_n hx hb d_M_stepsDone_13 rfl (lv_at hl 0 rfl) ?_
        refine sw_callVi (rest := [.int (nI n)]) 0 4 [.int (nI (g * 16)), .int (nI k)] hx hb hml hown hts hK hN hA hP hD hS (k_M_isDone l D cA aM aG st _ g k (by omega) (by omega)) cw_M_61 rfl rfl rfl ⟨Nat.le_of_ble_eq_true rfl, Nat.le_of_ble_eq_true rfl⟩ hl.1 rfl rfl (Nat.le_of_ble_eq_true rfl) d_M_stepsDone_14 (fun r14 u14 H locs hq14 hP hD hS => ?_)
        obtain ⟨hr14, hq14⟩ := hq14
        rw [hr14]
        rw [hq14] at hP hD
        refine sw_bz_eq (tgt := 24) hx hb d_M_stepsDone_17 (by decide) (fun h17 => ?_) (fun h17 => ?_)
        · skip
          refine lv_iconst (v := 0) hx hb d_M_stepsDone_24 (by decide) ?_
          refine lv_iadd hx hb d_M_stepsDone_25 ?_
          refine sw_tp (y := nI n) (nI_add n 0) ?_
          refine lv_istore_n hx hb d_M_stepsDone_26 rfl hl (by decide) rfl (fun ls hl => ?_)
          have hl : lv_has ls 4 [(2, .int (nI n)), (3, .int (nI k)), (0, .ref aM), (1, .int (nI (g * 16)))] := hl
          refine lv_iinc (k := 1) (v := nI (k + 1)) hx hb d_M_stepsDone_27 hl rfl (nI_1 _) (by decide) rfl (fun ls hl => ?_)
          have hl : lv_has ls 4 [(3, .int (nI (k + 1))), (2, .int (nI n)), (0, .ref aM), (1, .int (nI (g * 16)))] := hl
          refine lv_goto (tgt := 4) hx hb d_M_stepsDone_30 (by decide) ?_
          exact ih (18 - (k + 1)) (by omega) (k + 1) n _ _ _ rfl (by omega) (by rw [← hT, pcnt_s (k := k) (by omega), if_neg (by rw [h17]; decide)]) (lv_sub hl [0, 1, 2, 3] rfl) hP hD hS
        · skip
          refine lv_iconst (v := 1) hx hb d_M_stepsDone_20 (by decide) ?_
          refine lv_goto (tgt := 25) hx hb d_M_stepsDone_21 (by decide) ?_
          refine lv_iadd hx hb d_M_stepsDone_25 ?_
          refine sw_tp (y := nI (n + 1)) (nI_add n 1) ?_
          refine lv_istore_n hx hb d_M_stepsDone_26 rfl hl (by decide) rfl (fun ls hl => ?_)
          have hl : lv_has ls 4 [(2, .int (nI (n + 1))), (3, .int (nI k)), (0, .ref aM), (1, .int (nI (g * 16)))] := hl
          refine lv_iinc (k := 1) (v := nI (k + 1)) hx hb d_M_stepsDone_27 hl rfl (nI_1 _) (by decide) rfl (fun ls hl => ?_)
          have hl : lv_has ls 4 [(3, .int (nI (k + 1))), (2, .int (nI (n + 1))), (0, .ref aM), (1, .int (nI (g * 16)))] := hl
          refine lv_goto (tgt := 4) hx hb d_M_stepsDone_30 (by decide) ?_
          exact ih (18 - (k + 1)) (by omega) (k + 1) (n + 1) _ _ _ rfl (by omega) (by rw [← hT, pcnt_s (k := k) (by omega), if_pos h17]) (lv_sub hl [0, 1, 2, 3] rfl) hP hD hS
  exact loop _ 0 0 _ _ _ rfl (by omega) rfl (lv_sub hl [0, 1, 2, 3] rfl) hP hD hS
set_option maxHeartbeats 4000000 in
set_option maxRecDepth 100000 in
theorem k_M_move (l : Launch) (D : va_G) (cA : ClassId) (aM aG : Nat) (st : Ms) (sz : Nat) (to fr : Nat) (h1 : to < 15) (h2 : fr < 15) : Cv l y_M_move b_M_move 5 none 2 D cA (MW cA aM aG) st sz [.ref aM, .int (nI to), .int (nI fr)] (fun u => u = (pmove to fr st.1, st.2)) := by
  refine Cv.enter (by decide) (Nat.le_of_ble_eq_true rfl) ?_
  intro pr en s0 m0 ar bl me co A ls hx hb hml hr hlk hown hts hK hN hA hP hD hS hl
  have hl : lv_has ls 5 [(0, .ref aM), (1, .int (nI to)), (2, .int (nI fr))] := hl
  have hown : s0.vm.findClass R_M = some m0.cls := hown
  refine lv_aload_n hx hb d_M_move_0 rfl (lv_at hl 0 rfl) ?_
  refine lv_iload_n hx hb d_M_move_1 rfl (lv_at hl 1 rfl) ?_
  refine sw_callVv (rest := []) 0 4 [.int (nI to)] hx hb hml hown hts hK hN hA hP hD hS (k_M_erase l D cA aM aG st _ to (by omega)) cw_M_65 rfl rfl rfl ⟨Nat.le_of_ble_eq_true rfl, Nat.le_of_ble_eq_true rfl⟩ hl.1 rfl rfl (Nat.le_of_ble_eq_true rfl) d_M_move_2 (fun u2 H locs hq2 hP hD hS => ?_)
  have hu2 : u2 = (perase to st.1, st.2) := hq2
  refine lv_iconst (v := 0) hx hb d_M_move_5 (by decide) ?_
  refine lv_istore_n hx hb d_M_move_6 rfl hl (by decide) rfl (fun ls hl => ?_)
  have hl : lv_has ls 5 [(3, .int (0 : Int32)), (0, .ref aM), (1, .int (nI to)), (2, .int (nI fr))] := hl
  have loop : ∀ (d : Nat) (i : Nat) (u : Ms) (H : Heap) (locs : List Loc) (ls : Array Slot), 16 - i = d → i ≤ 16 → pmvl to fr (16 - i) i u.1 = pmove to fr st.1 → u.2 = st.2 → lv_has ls 5 [(3, .int (nI i)), (0, .ref aM), (1, .int (nI to)), (2, .int (nI fr))] → va_P D vwC (MW cA aM aG u) H → va_D A (MW cA aM aG u) → va_S A s0.heap H locs → W pr l en (lvr 2) s0 m0 ar bl me co H locs 0 0 (MQ bl (va_Qv (fun u => u = (pmove to fr st.1, st.2)) (sw_B D cA A (MW cA aM aG)) A) ar s0 0 0 A) (F0 m0 7 ls []) := by
    intro d
    induction d using Nat.strongRecOn with
    | ind d ih =>
      intro i u H locs ls hd hi hT hE hl hP hD hS
      refine lv_iload_n hx hb d_M_move_7 rfl (lv_at hl 0 rfl) ?_
      refine lv_bipush (v := 16) hx hb d_M_move_8 (by decide) ?_
      refine sw_nc_ge (a := i) (b := 16) (tgt := 52) hx hb (by omega) (by omega) d_M_move_10 (by decide) (fun h10 => ?_) (fun h10 => ?_)
      · skip
        refine sw_vret (u := u) hx hb hr hlk hK hP hD hS d_M_move_52 ?_
        have hi : i = 16 := by omega
        subst hi
        exact Prod.ext (pmvl_0.symm.trans hT) hE
      · skip
        refine lv_aload_n hx hb d_M_move_13 rfl (lv_at hl 1 rfl) ?_
        refine va_get (D := D) (ci := 4) (v := .ref aG) (C := R_M) (T := T_M) (N := 14) hx hb hts in_M hown hK hP 0 rfl rfl 1 (by decide) (hts _ wm_355) (fun _ h9 => h9) rfl d_M_move_14 ?_
        refine lv_bipush (v := 16) hx hb d_M_move_17 (by decide) ?_
        refine lv_iload_n hx hb d_M_move_19 rfl (lv_at hl 3 rfl) ?_
        refine lv_imul hx hb d_M_move_20 ?_
        refine sw_tp (y := nI (fr * 16)) ((pk_mul 16 fr).trans (niE (by omega))) ?_
        refine lv_iload_n hx hb d_M_move_21 rfl (lv_at hl 0 rfl) ?_
        refine lv_iadd hx hb d_M_move_22 ?_
        refine sw_tp (y := nI ((fr * 16) + i)) (nI_add (fr * 16) i) ?_
        refine sw_ald (n := (fr * 16) + i) (f := u.1.1.1) hx hb hK hP 1 0 rfl rfl (by omega) (by decide) d_M_move_23 ?_
        refine lv_istore hx hb d_M_move_24 hl (by decide) rfl (fun ls hl => ?_)
        have hl : lv_has ls 5 [(4, .int (u.1.1.1 ((fr * 16) + i))), (3, .int (nI i)), (0, .ref aM), (1, .int (nI to)), (2, .int (nI fr))] := hl
        refine lv_iload hx hb d_M_move_26 (lv_at hl 0 rfl) ?_
        refine lv_sipush (v := 255) hx hb d_M_move_28 (by decide) ?_
        refine lv_icmp_eq (tgt := 46) hx hb d_M_move_31 (by decide) (fun h31 => ?_) (fun h31 => ?_)
        · skip
          refine lv_iinc (k := 1) (v := nI (i + 1)) hx hb d_M_move_46 hl rfl (nI_1 _) (by decide) rfl (fun ls hl => ?_)
          have hl : lv_has ls 5 [(3, .int (nI (i + 1))), (4, .int (u.1.1.1 ((fr * 16) + i))), (0, .ref aM), (1, .int (nI to)), (2, .int (nI fr))] := hl
          refine lv_goto (tgt := 7) hx hb d_M_move_49 (by decide) ?_
          exact ih (16 - (i + 1)) (by omega) (i + 1) u _ _ _ rfl (by omega) (by rw [← hT, pmvl_s (i := i) (by omega), show pmv1 to fr i u.1 = u.1 from if_pos h31]) hE (lv_sub hl [0, 2, 3, 4] rfl) hP hD hS
        · skip
          refine lv_aload_n hx hb d_M_move_34 rfl (lv_at hl 2 rfl) ?_
          refine lv_bipush (v := 16) hx hb d_M_move_35 (by decide) ?_
          refine lv_iload_n hx hb d_M_move_37 rfl (lv_at hl 3 rfl) ?_
          refine lv_imul hx hb d_M_move_38 ?_
          refine sw_tp (y := nI (to * 16)) ((pk_mul 16 to).trans (niE (by omega))) ?_
          refine lv_iload_n hx hb d_M_move_39 rfl (lv_at hl 1 rfl) ?_
          refine lv_iadd hx hb d_M_move_40 ?_
          refine sw_tp (y := nI ((to * 16) + i)) (nI_add (to * 16) i) ?_
          refine lv_iload hx hb d_M_move_41 (lv_at hl 0 rfl) ?_
          refine sw_callVv (rest := []) 0 4 [.int (nI ((to * 16) + i)), .int (u.1.1.1 ((fr * 16) + i))] hx hb hml hown hts hK hN hA hP hD hS (k_M_write l D cA aM aG u _ ((to * 16) + i) (u.1.1.1 ((fr * 16) + i)) (by omega)) cw_M_69 rfl rfl rfl ⟨Nat.le_of_ble_eq_true rfl, Nat.le_of_ble_eq_true rfl⟩ hl.1 rfl rfl (Nat.le_of_ble_eq_true rfl) d_M_move_43 (fun u43 H locs hq43 hP hD hS => ?_)
          have hu43 : u43 = (pwrite ((to * 16) + i) (u.1.1.1 ((fr * 16) + i)) u.1, u.2) := hq43
          refine lv_iinc (k := 1) (v := nI (i + 1)) hx hb d_M_move_46 hl rfl (nI_1 _) (by decide) rfl (fun ls hl => ?_)
          have hl : lv_has ls 5 [(3, .int (nI (i + 1))), (4, .int (u.1.1.1 ((fr * 16) + i))), (0, .ref aM), (1, .int (nI to)), (2, .int (nI fr))] := hl
          refine lv_goto (tgt := 7) hx hb d_M_move_49 (by decide) ?_
          exact ih (16 - (i + 1)) (by omega) (i + 1) u43 _ _ _ rfl (by omega) (by rw [← hT, pmvl_s (i := i) (by omega), show pmv1 to fr i u.1 = _ from if_neg h31, hu43]) (by rw [hu43]; exact hE) (lv_sub hl [0, 2, 3, 4] rfl) hP hD hS
  exact loop _ 0 u2 _ _ _ rfl (by omega) (by rw [hu2] <;> rfl) (by rw [hu2]) (lv_sub hl [0, 1, 2, 3] rfl) hP hD hS
set_option maxHeartbeats 4000000 in
set_option maxRecDepth 100000 in
theorem k_M_change (l : Launch) (D : va_G) (cA : ClassId) (aM aG : Nat) (st : Ms) (sz : Nat) (g : Nat) (hg : g < 15) : Cv l y_M_change b_M_change 4 none 3 D cA (MW cA aM aG) st sz [.ref aM, .int (nI (g * 16))] (fun u => u = (pchange g st.1, st.2)) := by
  refine Cv.enter (by decide) (Nat.le_of_ble_eq_true rfl) ?_
  intro pr en s0 m0 ar bl me co A ls hx hb hml hr hlk hown hts hK hN hA hP hD hS hl
  have hl : lv_has ls 4 [(0, .ref aM), (1, .int (nI (g * 16)))] := hl
  have hown : s0.vm.findClass R_M = some m0.cls := hown
  refine lv_iconst (v := 0) hx hb d_M_change_0 (by decide) ?_
  refine lv_istore_n hx hb d_M_change_1 rfl hl (by decide) rfl (fun ls hl => ?_)
  have hl : lv_has ls 4 [(2, .int (0 : Int32)), (0, .ref aM), (1, .int (nI (g * 16)))] := hl
  have loop : ∀ (d : Nat) (k : Nat) (u : Ms) (H : Heap) (locs : List Loc) (ls : Array Slot), 18 - k = d → k ≤ 18 → pchl g (18 - k) k u.1 = pchange g st.1 → u.2 = st.2 → lv_has ls 4 [(2, .int (nI k)), (0, .ref aM), (1, .int (nI (g * 16)))] → va_P D vwC (MW cA aM aG u) H → va_D A (MW cA aM aG u) → va_S A s0.heap H locs → W pr l en (lvr 3) s0 m0 ar bl me co H locs 0 0 (MQ bl (va_Qv (fun u => u = (pchange g st.1, st.2)) (sw_B D cA A (MW cA aM aG)) A) ar s0 0 0 A) (F0 m0 2 ls []) := by
    intro d
    induction d using Nat.strongRecOn with
    | ind d ih =>
      intro k u H locs ls hd hk hT hE hl hP hD hS
      refine lv_iload_n hx hb d_M_change_2 rfl (lv_at hl 0 rfl) ?_
      refine lv_bipush (v := 18) hx hb d_M_change_3 (by decide) ?_
      refine sw_nc_ge (a := k) (b := 18) (tgt := 101) hx hb (by omega) (by omega) d_M_change_5 (by decide) (fun h5 => ?_) (fun h5 => ?_)
      · skip
        refine sw_vret (u := u) hx hb hr hlk hK hP hD hS d_M_change_101 ?_
        have hk : k = 18 := by omega
        subst hk
        exact Prod.ext (pchl_0.symm.trans hT) hE
      · skip
        refine lv_iload_n hx hb d_M_change_8 rfl (lv_at hl 0 rfl) ?_
        refine lv_iconst (v := 3) hx hb d_M_change_9 (by decide) ?_
        refine lv_idiv hx hb d_M_change_10 (by decide) ?_
        refine sw_tp (y := nI (k / 3)) (pk_div (a := k) (d := 3) (by omega) (by decide) (by decide)) ?_
        refine lv_istore_n hx hb d_M_change_11 rfl hl (by decide) rfl (fun ls hl => ?_)
        have hl : lv_has ls 4 [(3, .int (nI (k / 3))), (2, .int (nI k)), (0, .ref aM), (1, .int (nI (g * 16)))] := hl
        refine lv_aload_n hx hb d_M_change_12 rfl (lv_at hl 2 rfl) ?_
        refine lv_iload_n hx hb d_M_change_13 rfl (lv_at hl 3 rfl) ?_
        refine lv_iload_n hx hb d_M_change_14 rfl (lv_at hl 1 rfl) ?_
        refine sw_callVi (rest := []) 0 4 [.int (nI (g * 16)), .int (nI k)] hx hb hml hown hts hK hN hA hP hD hS (k_M_isDone l D cA aM aG u _ g k (by omega) (by omega)) cw_M_61 rfl rfl rfl ⟨Nat.le_of_ble_eq_true rfl, Nat.le_of_ble_eq_true rfl⟩ hl.1 rfl rfl (Nat.le_of_ble_eq_true rfl) d_M_change_15 (fun r15 u15 H locs hq15 hP hD hS => ?_)
        obtain ⟨hr15, hq15⟩ := hq15
        rw [hr15]
        rw [hq15] at hP hD
        refine sw_bz_ne (tgt := 95) hx hb d_M_change_18 (by decide) (fun h18 => ?_) (fun h18 => ?_)
        · skip
          refine lv_iinc (k := 1) (v := nI (k + 1)) hx hb d_M_change_95 hl rfl (nI_1 _) (by decide) rfl (fun ls hl => ?_)
          have hl : lv_has ls 4 [(2, .int (nI (k + 1))), (3, .int (nI (k / 3))), (0, .ref aM), (1, .int (nI (g * 16)))] := hl
          refine lv_goto (tgt := 2) hx hb d_M_change_98 (by decide) ?_
          exact ih (18 - (k + 1)) (by omega) (k + 1) u _ _ _ rfl (by omega) (by rw [← hT, pchl_s (k := k) (by omega), show pstep g k u.1 = u.1 from if_pos h18]) hE (lv_sub hl [0, 2, 3] rfl) hP hD hS
        · skip
          refine lv_aload_n hx hb d_M_change_21 rfl (lv_at hl 2 rfl) ?_
          refine va_get (D := D) (ci := 4) (v := .int (b2i (u.1.2))) (C := R_M) (T := T_M) (N := 14) hx hb hts in_M hown hK hP 0 rfl rfl 5 (by decide) (hts _ wm_359) (fun _ h9 => h9) rfl d_M_change_22 ?_
          refine sw_bz_ne (tgt := 95) hx hb d_M_change_25 (by decide) (fun h25 => ?_) (fun h25 => ?_)
          · skip
            refine lv_iinc (k := 1) (v := nI (k + 1)) hx hb d_M_change_95 hl rfl (nI_1 _) (by decide) rfl (fun ls hl => ?_)
            have hl : lv_has ls 4 [(2, .int (nI (k + 1))), (3, .int (nI (k / 3))), (0, .ref aM), (1, .int (nI (g * 16)))] := hl
            refine lv_goto (tgt := 2) hx hb d_M_change_98 (by decide) ?_
            exact ih (18 - (k + 1)) (by omega) (k + 1) u _ _ _ rfl (by omega) (by rw [← hT, pchl_s (k := k) (by omega), pstep_went h25]) hE (lv_sub hl [0, 2, 3] rfl) hP hD hS
          · skip
            refine lv_iload_n hx hb d_M_change_28 rfl (lv_at hl 1 rfl) ?_
            refine lv_iconst (v := 3) hx hb d_M_change_29 (by decide) ?_
            refine lv_irem hx hb d_M_change_30 (by decide) ?_
            refine sw_tp (y := nI (k % 3)) (pk_rem (a := k) (d := 3) (by omega) (by decide) (by decide)) ?_
            refine sw_nz_ne (a := k % 3) (tgt := 44) hx hb (by omega) d_M_change_31 (by decide) (fun h31 => ?_) (fun h31 => ?_)
            · skip
              refine lv_iload_n hx hb d_M_change_44 rfl (lv_at hl 1 rfl) ?_
              refine lv_iconst (v := 3) hx hb d_M_change_45 (by decide) ?_
              refine lv_irem hx hb d_M_change_46 (by decide) ?_
              refine sw_tp (y := nI (k % 3)) (pk_rem (a := k) (d := 3) (by omega) (by decide) (by decide)) ?_
              refine lv_iconst (v := 1) hx hb d_M_change_47 (by decide) ?_
              refine sw_nc_ne (a := k % 3) (b := 1) (tgt := 63) hx hb (by omega) (by omega) d_M_change_48 (by decide) (fun h48 => ?_) (fun h48 => ?_)
              · skip
                refine lv_aload_n hx hb d_M_change_63 rfl (lv_at hl 2 rfl) ?_
                refine lv_bipush (v := 6) hx hb d_M_change_64 (by decide) ?_
                refine lv_iload_n hx hb d_M_change_66 rfl (lv_at hl 0 rfl) ?_
                refine lv_iadd hx hb d_M_change_67 ?_
                refine sw_tp (y := nI (6 + (k / 3))) (nI_add 6 (k / 3)) ?_
                refine lv_bipush (v := 12) hx hb d_M_change_68 (by decide) ?_
                refine sw_callVv (rest := []) 0 4 [.int (nI (6 + (k / 3))), .int (nI 12)] hx hb hml hown hts hK hN hA hP hD hS (k_M_move l D cA aM aG u _ (6 + (k / 3)) 12 (by omega) (by omega)) cw_M_73 rfl rfl rfl ⟨Nat.le_of_ble_eq_true rfl, Nat.le_of_ble_eq_true rfl⟩ hl.1 rfl rfl (Nat.le_of_ble_eq_true rfl) d_M_change_70 (fun u70 H locs hq70 hP hD hS => ?_)
                have hu70 : u70 = (pmove (6 + (k / 3)) 12 u.1, u.2) := hq70
                refine lv_aload_n hx hb d_M_change_73 rfl (lv_at hl 2 rfl) ?_
                refine lv_iload_n hx hb d_M_change_74 rfl (lv_at hl 3 rfl) ?_
                refine lv_iconst (v := 4) hx hb d_M_change_75 (by decide) ?_
                refine lv_iadd hx hb d_M_change_76 ?_
                refine sw_tp (y := nI ((g * 16) + 4)) (nI_add (g * 16) 4) ?_
                refine lv_iload_n hx hb d_M_change_77 rfl (lv_at hl 1 rfl) ?_
                refine lv_bipush (v := 8) hx hb d_M_change_78 (by decide) ?_
                refine lv_idiv hx hb d_M_change_80 (by decide) ?_
                refine sw_tp (y := nI (k / 8)) (pk_div (a := k) (d := 8) (by omega) (by decide) (by decide)) ?_
                refine lv_iadd hx hb d_M_change_81 ?_
                refine sw_tp (y := nI (((g * 16) + 4) + (k / 8))) (nI_add ((g * 16) + 4) (k / 8)) ?_
                refine sw_tp (y := nI (g * 16 + (4 + k / 8))) (niE (Nat.add_assoc _ _ _)) ?_
                refine lv_sipush (v := 255) hx hb d_M_change_82 (by decide) ?_
                refine lv_iconst (v := 1) hx hb d_M_change_85 (by decide) ?_
                refine lv_iload_n hx hb d_M_change_86 rfl (lv_at hl 1 rfl) ?_
                refine lv_bipush (v := 8) hx hb d_M_change_87 (by decide) ?_
                refine lv_irem hx hb d_M_change_89 (by decide) ?_
                refine sw_tp (y := nI (k % 8)) (pk_rem (a := k) (d := 8) (by omega) (by decide) (by decide)) ?_
                refine lv_ishl hx hb d_M_change_90 ?_
                refine sw_tp (y := nI (2 ^ (k % 8))) (pbit_shl k h5) ?_
                refine lv_isub hx hb d_M_change_91 ?_
                refine sw_tp (y := nI (255 - 2 ^ (k % 8))) (pbit_sub k h5) ?_
                refine sw_callVv (rest := []) 0 4 [.int (nI (g * 16 + (4 + k / 8))), .int (nI (255 - 2 ^ (k % 8)))] hx hb hml hown hts hK hN hA hP hD hS (k_M_write l D cA aM aG u70 _ (g * 16 + (4 + k / 8)) (nI (255 - 2 ^ (k % 8))) (by omega)) cw_M_69 rfl rfl rfl ⟨Nat.le_of_ble_eq_true rfl, Nat.le_of_ble_eq_true rfl⟩ hl.1 rfl rfl (Nat.le_of_ble_eq_true rfl) d_M_change_92 (fun u92 H locs hq92 hP hD hS => ?_)
                have hu92 : u92 = (pwrite (g * 16 + (4 + k / 8)) (nI (255 - 2 ^ (k % 8))) u70.1, u70.2) := hq92
                refine lv_iinc (k := 1) (v := nI (k + 1)) hx hb d_M_change_95 hl rfl (nI_1 _) (by decide) rfl (fun ls hl => ?_)
                have hl : lv_has ls 4 [(2, .int (nI (k + 1))), (3, .int (nI (k / 3))), (0, .ref aM), (1, .int (nI (g * 16)))] := hl
                refine lv_goto (tgt := 2) hx hb d_M_change_98 (by decide) ?_
                exact ih (18 - (k + 1)) (by omega) (k + 1) u92 _ _ _ rfl (by omega) (by rw [← hT, pchl_s (k := k) (by omega), show pstep g k u.1 = _ from if_neg (show ¬ pdone u.1.1.1 g k = true by rw [h18]; decide), show ptgt k = 6 + k / 3 from (if_neg h31).trans (if_neg h48), show psrc k = 12 from (if_neg h31).trans (if_neg h48), hu92, hu70]) (by rw [hu92, hu70]; exact hE) (lv_sub hl [0, 2, 3] rfl) hP hD hS
              · skip
                refine lv_aload_n hx hb d_M_change_51 rfl (lv_at hl 2 rfl) ?_
                refine lv_iload_n hx hb d_M_change_52 rfl (lv_at hl 0 rfl) ?_
                refine lv_bipush (v := 6) hx hb d_M_change_53 (by decide) ?_
                refine lv_iload_n hx hb d_M_change_55 rfl (lv_at hl 0 rfl) ?_
                refine lv_iadd hx hb d_M_change_56 ?_
                refine sw_tp (y := nI (6 + (k / 3))) (nI_add 6 (k / 3)) ?_
                refine sw_callVv (rest := []) 0 4 [.int (nI (k / 3)), .int (nI (6 + (k / 3)))] hx hb hml hown hts hK hN hA hP hD hS (k_M_move l D cA aM aG u _ (k / 3) (6 + (k / 3)) (by omega) (by omega)) cw_M_73 rfl rfl rfl ⟨Nat.le_of_ble_eq_true rfl, Nat.le_of_ble_eq_true rfl⟩ hl.1 rfl rfl (Nat.le_of_ble_eq_true rfl) d_M_change_57 (fun u57 H locs hq57 hP hD hS => ?_)
                have hu57 : u57 = (pmove (k / 3) (6 + (k / 3)) u.1, u.2) := hq57
                refine lv_goto (tgt := 73) hx hb d_M_change_60 (by decide) ?_
                refine lv_aload_n hx hb d_M_change_73 rfl (lv_at hl 2 rfl) ?_
                refine lv_iload_n hx hb d_M_change_74 rfl (lv_at hl 3 rfl) ?_
                refine lv_iconst (v := 4) hx hb d_M_change_75 (by decide) ?_
                refine lv_iadd hx hb d_M_change_76 ?_
                refine sw_tp (y := nI ((g * 16) + 4)) (nI_add (g * 16) 4) ?_
                refine lv_iload_n hx hb d_M_change_77 rfl (lv_at hl 1 rfl) ?_
                refine lv_bipush (v := 8) hx hb d_M_change_78 (by decide) ?_
                refine lv_idiv hx hb d_M_change_80 (by decide) ?_
                refine sw_tp (y := nI (k / 8)) (pk_div (a := k) (d := 8) (by omega) (by decide) (by decide)) ?_
                refine lv_iadd hx hb d_M_change_81 ?_
                refine sw_tp (y := nI (((g * 16) + 4) + (k / 8))) (nI_add ((g * 16) + 4) (k / 8)) ?_
                refine sw_tp (y := nI (g * 16 + (4 + k / 8))) (niE (Nat.add_assoc _ _ _)) ?_
                refine lv_sipush (v := 255) hx hb d_M_change_82 (by decide) ?_
                refine lv_iconst (v := 1) hx hb d_M_change_85 (by decide) ?_
                refine lv_iload_n hx hb d_M_change_86 rfl (lv_at hl 1 rfl) ?_
                refine lv_bipush (v := 8) hx hb d_M_change_87 (by decide) ?_
                refine lv_irem hx hb d_M_change_89 (by decide) ?_
                refine sw_tp (y := nI (k % 8)) (pk_rem (a := k) (d := 8) (by omega) (by decide) (by decide)) ?_
                refine lv_ishl hx hb d_M_change_90 ?_
                refine sw_tp (y := nI (2 ^ (k % 8))) (pbit_shl k h5) ?_
                refine lv_isub hx hb d_M_change_91 ?_
                refine sw_tp (y := nI (255 - 2 ^ (k % 8))) (pbit_sub k h5) ?_
                refine sw_callVv (rest := []) 0 4 [.int (nI (g * 16 + (4 + k / 8))), .int (nI (255 - 2 ^ (k % 8)))] hx hb hml hown hts hK hN hA hP hD hS (k_M_write l D cA aM aG u57 _ (g * 16 + (4 + k / 8)) (nI (255 - 2 ^ (k % 8))) (by omega)) cw_M_69 rfl rfl rfl ⟨Nat.le_of_ble_eq_true rfl, Nat.le_of_ble_eq_true rfl⟩ hl.1 rfl rfl (Nat.le_of_ble_eq_true rfl) d_M_change_92 (fun u92 H locs hq92 hP hD hS => ?_)
                have hu92 : u92 = (pwrite (g * 16 + (4 + k / 8)) (nI (255 - 2 ^ (k % 8))) u57.1, u57.2) := hq92
                refine lv_iinc (k := 1) (v := nI (k + 1)) hx hb d_M_change_95 hl rfl (nI_1 _) (by decide) rfl (fun ls hl => ?_)
                have hl : lv_has ls 4 [(2, .int (nI (k + 1))), (3, .int (nI (k / 3))), (0, .ref aM), (1, .int (nI (g * 16)))] := hl
                refine lv_goto (tgt := 2) hx hb d_M_change_98 (by decide) ?_
                exact ih (18 - (k + 1)) (by omega) (k + 1) u92 _ _ _ rfl (by omega) (by rw [← hT, pchl_s (k := k) (by omega), show pstep g k u.1 = _ from if_neg (show ¬ pdone u.1.1.1 g k = true by rw [h18]; decide), show ptgt k = k / 3 from (if_neg h31).trans (if_pos h48), show psrc k = 6 + k / 3 from (if_neg h31).trans (if_pos h48), hu92, hu57]) (by rw [hu92, hu57]; exact hE) (lv_sub hl [0, 2, 3] rfl) hP hD hS
            · skip
              refine lv_aload_n hx hb d_M_change_34 rfl (lv_at hl 2 rfl) ?_
              refine lv_bipush (v := 12) hx hb d_M_change_35 (by decide) ?_
              refine lv_iload_n hx hb d_M_change_37 rfl (lv_at hl 0 rfl) ?_
              refine sw_callVv (rest := []) 0 4 [.int (nI 12), .int (nI (k / 3))] hx hb hml hown hts hK hN hA hP hD hS (k_M_move l D cA aM aG u _ 12 (k / 3) (by omega) (by omega)) cw_M_73 rfl rfl rfl ⟨Nat.le_of_ble_eq_true rfl, Nat.le_of_ble_eq_true rfl⟩ hl.1 rfl rfl (Nat.le_of_ble_eq_true rfl) d_M_change_38 (fun u38 H locs hq38 hP hD hS => ?_)
              have hu38 : u38 = (pmove 12 (k / 3) u.1, u.2) := hq38
              refine lv_goto (tgt := 73) hx hb d_M_change_41 (by decide) ?_
              refine lv_aload_n hx hb d_M_change_73 rfl (lv_at hl 2 rfl) ?_
              refine lv_iload_n hx hb d_M_change_74 rfl (lv_at hl 3 rfl) ?_
              refine lv_iconst (v := 4) hx hb d_M_change_75 (by decide) ?_
              refine lv_iadd hx hb d_M_change_76 ?_
              refine sw_tp (y := nI ((g * 16) + 4)) (nI_add (g * 16) 4) ?_
              refine lv_iload_n hx hb d_M_change_77 rfl (lv_at hl 1 rfl) ?_
              refine lv_bipush (v := 8) hx hb d_M_change_78 (by decide) ?_
              refine lv_idiv hx hb d_M_change_80 (by decide) ?_
              refine sw_tp (y := nI (k / 8)) (pk_div (a := k) (d := 8) (by omega) (by decide) (by decide)) ?_
              refine lv_iadd hx hb d_M_change_81 ?_
              refine sw_tp (y := nI (((g * 16) + 4) + (k / 8))) (nI_add ((g * 16) + 4) (k / 8)) ?_
              refine sw_tp (y := nI (g * 16 + (4 + k / 8))) (niE (Nat.add_assoc _ _ _)) ?_
              refine lv_sipush (v := 255) hx hb d_M_change_82 (by decide) ?_
              refine lv_iconst (v := 1) hx hb d_M_change_85 (by decide) ?_
              refine lv_iload_n hx hb d_M_change_86 rfl (lv_at hl 1 rfl) ?_
              refine lv_bipush (v := 8) hx hb d_M_change_87 (by decide) ?_
              refine lv_irem hx hb d_M_change_89 (by decide) ?_
              refine sw_tp (y := nI (k % 8)) (pk_rem (a := k) (d := 8) (by omega) (by decide) (by decide)) ?_
              refine lv_ishl hx hb d_M_change_90 ?_
              refine sw_tp (y := nI (2 ^ (k % 8))) (pbit_shl k h5) ?_
              refine lv_isub hx hb d_M_change_91 ?_
              refine sw_tp (y := nI (255 - 2 ^ (k % 8))) (pbit_sub k h5) ?_
              refine sw_callVv (rest := []) 0 4 [.int (nI (g * 16 + (4 + k / 8))), .int (nI (255 - 2 ^ (k % 8)))] hx hb hml hown hts hK hN hA hP hD hS (k_M_write l D cA aM aG u38 _ (g * 16 + (4 + k / 8)) (nI (255 - 2 ^ (k % 8))) (by omega)) cw_M_69 rfl rfl rfl ⟨Nat.le_of_ble_eq_true rfl, Nat.le_of_ble_eq_true rfl⟩ hl.1 rfl rfl (Nat.le_of_ble_eq_true rfl) d_M_change_92 (fun u92 H locs hq92 hP hD hS => ?_)
              have hu92 : u92 = (pwrite (g * 16 + (4 + k / 8)) (nI (255 - 2 ^ (k % 8))) u38.1, u38.2) := hq92
              refine lv_iinc (k := 1) (v := nI (k + 1)) hx hb d_M_change_95 hl rfl (nI_1 _) (by decide) rfl (fun ls hl => ?_)
              have hl : lv_has ls 4 [(2, .int (nI (k + 1))), (3, .int (nI (k / 3))), (0, .ref aM), (1, .int (nI (g * 16)))] := hl
              refine lv_goto (tgt := 2) hx hb d_M_change_98 (by decide) ?_
              exact ih (18 - (k + 1)) (by omega) (k + 1) u92 _ _ _ rfl (by omega) (by rw [← hT, pchl_s (k := k) (by omega), show pstep g k u.1 = _ from if_neg (show ¬ pdone u.1.1.1 g k = true by rw [h18]; decide), show ptgt k = 12 from if_pos h31, show psrc k = k / 3 from if_pos h31, hu92, hu38]) (by rw [hu92, hu38]; exact hE) (lv_sub hl [0, 2, 3] rfl) hP hD hS
  exact loop _ 0 st _ _ _ rfl (by omega) rfl rfl (lv_sub hl [0, 1, 2] rfl) hP hD hS
set_option maxHeartbeats 4000000 in
set_option maxRecDepth 100000 in
theorem k_M_asks (l : Launch) (D : va_G) (cA : ClassId) (aM aG : Nat) (st : Ms) (sz : Nat) (a : Nat) (h : a < 240) : Ci l y_M_asks b_M_asks 2 (some .boolean) 0 D cA (MW cA aM aG) st sz [.ref aM, .int (nI a)] (fun r u => r = b2i (masks st.1.1.1 a) ∧ u = st) := by
  refine Ci.enter (by decide) (Nat.le_of_ble_eq_true rfl) ?_
  intro pr en s0 m0 ar bl me co A ls hx hb hml hr hlk hown hts hK hN hA hP hD hS hl
  have hl : lv_has ls 2 [(0, .ref aM), (1, .int (nI a))] := hl
  have hown : s0.vm.findClass R_M = some m0.cls := hown
  refine lv_aload_n hx hb d_M_asks_0 rfl (lv_at hl 0 rfl) ?_
  refine va_get (D := D) (ci := 4) (v := .ref aG) (C := R_M) (T := T_M) (N := 14) hx hb hts in_M hown hK hP 0 rfl rfl 1 (by decide) (hts _ wm_355) (fun _ h9 => h9) rfl d_M_asks_1 ?_
  refine lv_iload_n hx hb d_M_asks_4 rfl (lv_at hl 1 rfl) ?_
  refine sw_ald (n := a) (f := st.1.1.1) hx hb hK hP 1 0 rfl rfl (by omega) (by decide) d_M_asks_5 ?_
  refine lv_sipush (v := 255) hx hb d_M_asks_6 (by decide) ?_
  refine lv_icmp_eq (tgt := 16) hx hb d_M_asks_9 (by decide) (fun h9 => ?_) (fun h9 => ?_)
  · skip
    refine lv_iconst (v := 0) hx hb d_M_asks_16 (by decide) ?_
    refine sw_iret (u := st) (v := (0 : Int32)) hx hb hr hlk hK hP hD hS d_M_asks_17 rfl ?_
    exact ⟨b2i_f (fun q => q h9), rfl⟩
  · skip
    refine lv_iconst (v := 1) hx hb d_M_asks_12 (by decide) ?_
    refine lv_goto (tgt := 17) hx hb d_M_asks_13 (by decide) ?_
    refine sw_iret (u := st) (v := (1 : Int32)) hx hb hr hlk hK hP hD hS d_M_asks_17 rfl ?_
    exact ⟨b2i_t h9, rfl⟩
set_option maxHeartbeats 4000000 in
set_option maxRecDepth 100000 in
theorem k_M_isSet (l : Launch) (D : va_G) (cA : ClassId) (aM aG : Nat) (st : Ms) (sz : Nat) (k : Nat) (h : k < 16) : Ci l y_M_isSet b_M_isSet 2 (some .boolean) 1 D cA (MW cA aM aG) st sz [.ref aM, .int (nI k)] (fun r u => r = b2i (mset st.1.1.1 k) ∧ u = st) := by
  refine Ci.enter (by decide) (Nat.le_of_ble_eq_true rfl) ?_
  intro pr en s0 m0 ar bl me co A ls hx hb hml hr hlk hown hts hK hN hA hP hD hS hl
  have hl : lv_has ls 2 [(0, .ref aM), (1, .int (nI k))] := hl
  have hown : s0.vm.findClass R_M = some m0.cls := hown
  refine lv_aload_n hx hb d_M_isSet_0 rfl (lv_at hl 0 rfl) ?_
  refine lv_sipush (v := 208) hx hb d_M_isSet_1 (by decide) ?_
  refine sw_callVi (rest := []) 0 4 [.int (nI 208)] hx hb hml hown hts hK hN hA hP hD hS (k_M_asks l D cA aM aG st _ 208 (by omega)) cw_M_76 rfl rfl rfl ⟨Nat.le_of_ble_eq_true rfl, Nat.le_of_ble_eq_true rfl⟩ hl.1 rfl rfl (Nat.le_of_ble_eq_true rfl) d_M_isSet_4 (fun r4 u4 H locs hq4 hP hD hS => ?_)
  obtain ⟨hr4, hq4⟩ := hq4
  rw [hr4]
  rw [hq4] at hP hD
  refine sw_bz_eq (tgt := 27) hx hb d_M_isSet_7 (by decide) (fun h7 => ?_) (fun h7 => ?_)
  · skip
    refine lv_iconst (v := 0) hx hb d_M_isSet_27 (by decide) ?_
    refine sw_iret (u := st) (v := (0 : Int32)) hx hb hr hlk hK hP hD hS d_M_isSet_28 rfl ?_
    exact ⟨b2i_f (fun q => of_decide_eq_false h7 q.1), rfl⟩
  · skip
    refine lv_aload_n hx hb d_M_isSet_10 rfl (lv_at hl 0 rfl) ?_
    refine va_get (D := D) (ci := 4) (v := .ref aG) (C := R_M) (T := T_M) (N := 14) hx hb hts in_M hown hK hP 0 rfl rfl 1 (by decide) (hts _ wm_355) (fun _ h9 => h9) rfl d_M_isSet_11 ?_
    refine lv_sipush (v := 208) hx hb d_M_isSet_14 (by decide) ?_
    refine lv_iload_n hx hb d_M_isSet_17 rfl (lv_at hl 1 rfl) ?_
    refine lv_iadd hx hb d_M_isSet_18 ?_
    refine sw_tp (y := nI (208 + k)) (nI_add 208 k) ?_
    refine sw_ald (n := 208 + k) (f := st.1.1.1) hx hb hK hP 1 0 rfl rfl (by omega) (by decide) d_M_isSet_19 ?_
    refine lv_if_ne (tgt := 27) hx hb d_M_isSet_20 (by decide) (fun h20 => ?_) (fun h20 => ?_)
    · skip
      refine lv_iconst (v := 0) hx hb d_M_isSet_27 (by decide) ?_
      refine sw_iret (u := st) (v := (0 : Int32)) hx hb hr hlk hK hP hD hS d_M_isSet_28 rfl ?_
      exact ⟨b2i_f (fun q => h20 q.2), rfl⟩
    · skip
      refine lv_iconst (v := 1) hx hb d_M_isSet_23 (by decide) ?_
      refine lv_goto (tgt := 28) hx hb d_M_isSet_24 (by decide) ?_
      refine sw_iret (u := st) (v := (1 : Int32)) hx hb hr hlk hK hP hD hS d_M_isSet_28 rfl ?_
      exact ⟨b2i_t ⟨of_decide_eq_true h7, h20⟩, rfl⟩
set_option maxHeartbeats 4000000 in
set_option maxRecDepth 100000 in
theorem k_M_changeBack (l : Launch) (D : va_G) (cA : ClassId) (aM aG : Nat) (st : Ms) (sz : Nat) : Cv l y_M_changeBack b_M_changeBack 1 none 4 D cA (MW cA aM aG) st sz [.ref aM] (fun u => u = (pback st.1, st.2)) := by
  refine Cv.enter (by decide) (Nat.le_of_ble_eq_true rfl) ?_
  intro pr en s0 m0 ar bl me co A ls hx hb hml hr hlk hown hts hK hN hA hP hD hS hl
  have hl : lv_has ls 1 [(0, .ref aM)] := hl
  have hown : s0.vm.findClass R_M = some m0.cls := hown
  refine lv_aload_n hx hb d_M_changeBack_0 rfl (lv_at hl 0 rfl) ?_
  refine lv_sipush (v := 224) hx hb d_M_changeBack_1 (by decide) ?_
  refine sw_callVv (rest := []) 0 4 [.int (nI 224)] hx hb hml hown hts hK hN hA hP hD hS (k_M_change l D cA aM aG st _ 14 (by omega)) cw_M_79 rfl rfl rfl ⟨Nat.le_of_ble_eq_true rfl, Nat.le_of_ble_eq_true rfl⟩ hl.1 rfl rfl (Nat.le_of_ble_eq_true rfl) d_M_changeBack_4 (fun u4 H locs hq4 hP hD hS => ?_)
  have hu4 : u4 = (pchange 14 st.1, st.2) := hq4
  refine lv_aload_n hx hb d_M_changeBack_7 rfl (lv_at hl 0 rfl) ?_
  refine lv_bipush (v := 13) hx hb d_M_changeBack_8 (by decide) ?_
  refine sw_callVv (rest := []) 0 4 [.int (nI 13)] hx hb hml hown hts hK hN hA hP hD hS (k_M_erase l D cA aM aG u4 _ 13 (by omega)) cw_M_65 rfl rfl rfl ⟨Nat.le_of_ble_eq_true rfl, Nat.le_of_ble_eq_true rfl⟩ hl.1 rfl rfl (Nat.le_of_ble_eq_true rfl) d_M_changeBack_10 (fun u10 H locs hq10 hP hD hS => ?_)
  have hu10 : u10 = (perase 13 u4.1, u4.2) := hq10
  refine lv_aload_n hx hb d_M_changeBack_13 rfl (lv_at hl 0 rfl) ?_
  refine lv_bipush (v := 14) hx hb d_M_changeBack_14 (by decide) ?_
  refine sw_callVv (rest := []) 0 4 [.int (nI 14)] hx hb hml hown hts hK hN hA hP hD hS (k_M_erase l D cA aM aG u10 _ 14 (by omega)) cw_M_65 rfl rfl rfl ⟨Nat.le_of_ble_eq_true rfl, Nat.le_of_ble_eq_true rfl⟩ hl.1 rfl rfl (Nat.le_of_ble_eq_true rfl) d_M_changeBack_16 (fun u16 H locs hq16 hP hD hS => ?_)
  have hu16 : u16 = (perase 14 u10.1, u10.2) := hq16
  refine sw_vret (u := u16) hx hb hr hlk hK hP hD hS d_M_changeBack_19 ?_
  rw [hu16, hu10, hu4] <;> rfl
set_option maxHeartbeats 4000000 in
set_option maxRecDepth 100000 in
theorem k_M_settle (l : Launch) (D : va_G) (cA : ClassId) (aM aG : Nat) (st : Ms) (sz : Nat) : Cv l y_M_settle b_M_settle 1 none 5 D cA (MW cA aM aG) st sz [.ref aM] (fun u => u = (msettle st.1, st.2)) := by
  refine Cv.enter (by decide) (Nat.le_of_ble_eq_true rfl) ?_
  intro pr en s0 m0 ar bl me co A ls hx hb hml hr hlk hown hts hK hN hA hP hD hS hl
  have hl : lv_has ls 1 [(0, .ref aM)] := hl
  have hown : s0.vm.findClass R_M = some m0.cls := hown
  have hcn := pcnt_le st.1.1.1 13 18 0 0
  refine lv_aload_n hx hb d_M_settle_0 rfl (lv_at hl 0 rfl) ?_
  refine lv_sipush (v := 224) hx hb d_M_settle_1 (by decide) ?_
  refine sw_callVi (rest := []) 0 4 [.int (nI 224)] hx hb hml hown hts hK hN hA hP hD hS (k_M_asks l D cA aM aG st _ 224 (by omega)) cw_M_76 rfl rfl rfl ⟨Nat.le_of_ble_eq_true rfl, Nat.le_of_ble_eq_true rfl⟩ hl.1 rfl rfl (Nat.le_of_ble_eq_true rfl) d_M_settle_4 (fun r4 u4 H locs hq4 hP hD hS => ?_)
  obtain ⟨hr4, hq4⟩ := hq4
  rw [hr4]
  rw [hq4] at hP hD
  refine sw_bz_eq (tgt := 17) hx hb d_M_settle_7 (by decide) (fun h7 => ?_) (fun h7 => ?_)
  · skip
    refine lv_aload_n hx hb d_M_settle_17 rfl (lv_at hl 0 rfl) ?_
    refine lv_sipush (v := 208) hx hb d_M_settle_18 (by decide) ?_
    refine sw_callVi (rest := []) 0 4 [.int (nI 208)] hx hb hml hown hts hK hN hA hP hD hS (k_M_asks l D cA aM aG st _ 208 (by omega)) cw_M_76 rfl rfl rfl ⟨Nat.le_of_ble_eq_true rfl, Nat.le_of_ble_eq_true rfl⟩ hl.1 rfl rfl (Nat.le_of_ble_eq_true rfl) d_M_settle_21 (fun r21 u21 H locs hq21 hP hD hS => ?_)
    obtain ⟨hr21, hq21⟩ := hq21
    rw [hr21]
    rw [hq21] at hP hD
    refine sw_bz_eq (tgt := 81) hx hb d_M_settle_24 (by decide) (fun h24 => ?_) (fun h24 => ?_)
    · skip
      refine lv_aload_n hx hb d_M_settle_81 rfl (lv_at hl 0 rfl) ?_
      refine lv_iconst (v := 1) hx hb d_M_settle_82 (by decide) ?_
      refine sw_callVi (rest := []) 0 4 [.int (nI 1)] hx hb hml hown hts hK hN hA hP hD hS (k_M_isSet l D cA aM aG st _ 1 (by omega)) cw_M_85 rfl rfl rfl ⟨Nat.le_of_ble_eq_true rfl, Nat.le_of_ble_eq_true rfl⟩ hl.1 rfl rfl (Nat.le_of_ble_eq_true rfl) d_M_settle_83 (fun r83 u83 H locs hq83 hP hD hS => ?_)
      obtain ⟨hr83, hq83⟩ := hq83
      rw [hr83]
      rw [hq83] at hP hD
      refine sw_bz_eq (tgt := 106) hx hb d_M_settle_86 (by decide) (fun h86 => ?_) (fun h86 => ?_)
      · skip
        refine lv_aload_n hx hb d_M_settle_106 rfl (lv_at hl 0 rfl) ?_
        refine lv_iconst (v := 1) hx hb d_M_settle_107 (by decide) ?_
        refine sw_callVi (rest := []) 0 4 [.int (nI 1)] hx hb hml hown hts hK hN hA hP hD hS (k_M_isSet l D cA aM aG st _ 1 (by omega)) cw_M_85 rfl rfl rfl ⟨Nat.le_of_ble_eq_true rfl, Nat.le_of_ble_eq_true rfl⟩ hl.1 rfl rfl (Nat.le_of_ble_eq_true rfl) d_M_settle_108 (fun r108 u108 H locs hq108 hP hD hS => ?_)
        obtain ⟨hr108, hq108⟩ := hq108
        rw [hr108]
        rw [hq108] at hP hD
        refine sw_bz_eq (tgt := 135) hx hb d_M_settle_111 (by decide) (fun h111 => ?_) (fun h111 => ?_)
        · skip
          refine sw_vret (u := st) hx hb hr hlk hK hP hD hS d_M_settle_135 ?_
          show _ = (msettle st.1, st.2)
          rw [show msettle st.1 = _ from (if_neg (show ¬ masks st.1.1.1 224 = true by rw [h7]; decide)).trans ((if_neg (fun q => by first | (rw [h24] at q; exact absurd q.1 (by decide)) | (rw [h32] at q; exact absurd q.2 (by decide)))).trans ((if_neg (fun q => by first | (rw [h86] at q; exact absurd q.1 (by decide)) | (rw [h94] at q; exact absurd q.2 (by decide)))).trans (if_neg (fun q => by first | (rw [h111] at q; exact absurd q.1 (by decide)) | (rw [h119] at q; exact absurd q.2 (by decide))))))]
        · skip
          refine lv_aload_n hx hb d_M_settle_114 rfl (lv_at hl 0 rfl) ?_
          refine lv_iconst (v := 3) hx hb d_M_settle_115 (by decide) ?_
          refine sw_callVi (rest := []) 0 4 [.int (nI 3)] hx hb hml hown hts hK hN hA hP hD hS (k_M_isSet l D cA aM aG st _ 3 (by omega)) cw_M_85 rfl rfl rfl ⟨Nat.le_of_ble_eq_true rfl, Nat.le_of_ble_eq_true rfl⟩ hl.1 rfl rfl (Nat.le_of_ble_eq_true rfl) d_M_settle_116 (fun r116 u116 H locs hq116 hP hD hS => ?_)
          obtain ⟨hr116, hq116⟩ := hq116
          rw [hr116]
          rw [hq116] at hP hD
          refine sw_bz_eq (tgt := 135) hx hb d_M_settle_119 (by decide) (fun h119 => ?_) (fun h119 => ?_)
          · skip
            refine sw_vret (u := st) hx hb hr hlk hK hP hD hS d_M_settle_135 ?_
            show _ = (msettle st.1, st.2)
            rw [show msettle st.1 = _ from (if_neg (show ¬ masks st.1.1.1 224 = true by rw [h7]; decide)).trans ((if_neg (fun q => by first | (rw [h24] at q; exact absurd q.1 (by decide)) | (rw [h32] at q; exact absurd q.2 (by decide)))).trans ((if_neg (fun q => by first | (rw [h86] at q; exact absurd q.1 (by decide)) | (rw [h94] at q; exact absurd q.2 (by decide)))).trans (if_neg (fun q => by first | (rw [h111] at q; exact absurd q.1 (by decide)) | (rw [h119] at q; exact absurd q.2 (by decide))))))]
          · skip
            refine lv_aload_n hx hb d_M_settle_122 rfl (lv_at hl 0 rfl) ?_
            refine lv_sipush (v := 224) hx hb d_M_settle_123 (by decide) ?_
            refine lv_bipush (v := 15) hx hb d_M_settle_126 (by decide) ?_
            refine sw_callVv (rest := []) 0 4 [.int (nI 224), .int (15 : Int32)] hx hb hml hown hts hK hN hA hP hD hS (k_M_write l D cA aM aG st _ 224 (15 : Int32) (by omega)) cw_M_69 rfl rfl rfl ⟨Nat.le_of_ble_eq_true rfl, Nat.le_of_ble_eq_true rfl⟩ hl.1 rfl rfl (Nat.le_of_ble_eq_true rfl) d_M_settle_128 (fun u128 H locs hq128 hP hD hS => ?_)
            have hu128 : u128 = (pwrite 224 (15 : Int32) st.1, st.2) := hq128
            refine lv_aload_n hx hb d_M_settle_131 rfl (lv_at hl 0 rfl) ?_
            refine sw_callVv (rest := []) 0 4 [] hx hb hml hown hts hK hN hA hP hD hS (k_M_changeBack l D cA aM aG u128 _) cw_M_82 rfl rfl rfl ⟨Nat.le_of_ble_eq_true rfl, Nat.le_of_ble_eq_true rfl⟩ hl.1 rfl rfl (Nat.le_of_ble_eq_true rfl) d_M_settle_132 (fun u132 H locs hq132 hP hD hS => ?_)
            have hu132 : u132 = (pback u128.1, u128.2) := hq132
            refine sw_vret (u := u132) hx hb hr hlk hK hP hD hS d_M_settle_135 ?_
            show _ = (msettle st.1, st.2)
            rw [show msettle st.1 = _ from (if_neg (show ¬ masks st.1.1.1 224 = true by rw [h7]; decide)).trans ((if_neg (fun q => by first | (rw [h24] at q; exact absurd q.1 (by decide)) | (rw [h32] at q; exact absurd q.2 (by decide)))).trans ((if_neg (fun q => by first | (rw [h86] at q; exact absurd q.1 (by decide)) | (rw [h94] at q; exact absurd q.2 (by decide)))).trans (if_pos ⟨h111, h119⟩)))]
            rw [hu132, hu128] <;> rfl
      · skip
        refine lv_aload_n hx hb d_M_settle_89 rfl (lv_at hl 0 rfl) ?_
        refine lv_iconst (v := 2) hx hb d_M_settle_90 (by decide) ?_
        refine sw_callVi (rest := []) 0 4 [.int (nI 2)] hx hb hml hown hts hK hN hA hP hD hS (k_M_isSet l D cA aM aG st _ 2 (by omega)) cw_M_85 rfl rfl rfl ⟨Nat.le_of_ble_eq_true rfl, Nat.le_of_ble_eq_true rfl⟩ hl.1 rfl rfl (Nat.le_of_ble_eq_true rfl) d_M_settle_91 (fun r91 u91 H locs hq91 hP hD hS => ?_)
        obtain ⟨hr91, hq91⟩ := hq91
        rw [hr91]
        rw [hq91] at hP hD
        refine sw_bz_eq (tgt := 106) hx hb d_M_settle_94 (by decide) (fun h94 => ?_) (fun h94 => ?_)
        · skip
          refine lv_aload_n hx hb d_M_settle_106 rfl (lv_at hl 0 rfl) ?_
          refine lv_iconst (v := 1) hx hb d_M_settle_107 (by decide) ?_
          refine sw_callVi (rest := []) 0 4 [.int (nI 1)] hx hb hml hown hts hK hN hA hP hD hS (k_M_isSet l D cA aM aG st _ 1 (by omega)) cw_M_85 rfl rfl rfl ⟨Nat.le_of_ble_eq_true rfl, Nat.le_of_ble_eq_true rfl⟩ hl.1 rfl rfl (Nat.le_of_ble_eq_true rfl) d_M_settle_108 (fun r108 u108 H locs hq108 hP hD hS => ?_)
          obtain ⟨hr108, hq108⟩ := hq108
          rw [hr108]
          rw [hq108] at hP hD
          refine sw_bz_eq (tgt := 135) hx hb d_M_settle_111 (by decide) (fun h111 => ?_) (fun h111 => ?_)
          · skip
            refine sw_vret (u := st) hx hb hr hlk hK hP hD hS d_M_settle_135 ?_
            show _ = (msettle st.1, st.2)
            rw [show msettle st.1 = _ from (if_neg (show ¬ masks st.1.1.1 224 = true by rw [h7]; decide)).trans ((if_neg (fun q => by first | (rw [h24] at q; exact absurd q.1 (by decide)) | (rw [h32] at q; exact absurd q.2 (by decide)))).trans ((if_neg (fun q => by first | (rw [h86] at q; exact absurd q.1 (by decide)) | (rw [h94] at q; exact absurd q.2 (by decide)))).trans (if_neg (fun q => by first | (rw [h111] at q; exact absurd q.1 (by decide)) | (rw [h119] at q; exact absurd q.2 (by decide))))))]
          · skip
            refine lv_aload_n hx hb d_M_settle_114 rfl (lv_at hl 0 rfl) ?_
            refine lv_iconst (v := 3) hx hb d_M_settle_115 (by decide) ?_
            refine sw_callVi (rest := []) 0 4 [.int (nI 3)] hx hb hml hown hts hK hN hA hP hD hS (k_M_isSet l D cA aM aG st _ 3 (by omega)) cw_M_85 rfl rfl rfl ⟨Nat.le_of_ble_eq_true rfl, Nat.le_of_ble_eq_true rfl⟩ hl.1 rfl rfl (Nat.le_of_ble_eq_true rfl) d_M_settle_116 (fun r116 u116 H locs hq116 hP hD hS => ?_)
            obtain ⟨hr116, hq116⟩ := hq116
            rw [hr116]
            rw [hq116] at hP hD
            refine sw_bz_eq (tgt := 135) hx hb d_M_settle_119 (by decide) (fun h119 => ?_) (fun h119 => ?_)
            · skip
              refine sw_vret (u := st) hx hb hr hlk hK hP hD hS d_M_settle_135 ?_
              show _ = (msettle st.1, st.2)
              rw [show msettle st.1 = _ from (if_neg (show ¬ masks st.1.1.1 224 = true by rw [h7]; decide)).trans ((if_neg (fun q => by first | (rw [h24] at q; exact absurd q.1 (by decide)) | (rw [h32] at q; exact absurd q.2 (by decide)))).trans ((if_neg (fun q => by first | (rw [h86] at q; exact absurd q.1 (by decide)) | (rw [h94] at q; exact absurd q.2 (by decide)))).trans (if_neg (fun q => by first | (rw [h111] at q; exact absurd q.1 (by decide)) | (rw [h119] at q; exact absurd q.2 (by decide))))))]
            · skip
              refine lv_aload_n hx hb d_M_settle_122 rfl (lv_at hl 0 rfl) ?_
              refine lv_sipush (v := 224) hx hb d_M_settle_123 (by decide) ?_
              refine lv_bipush (v := 15) hx hb d_M_settle_126 (by decide) ?_
              refine sw_callVv (rest := []) 0 4 [.int (nI 224), .int (15 : Int32)] hx hb hml hown hts hK hN hA hP hD hS (k_M_write l D cA aM aG st _ 224 (15 : Int32) (by omega)) cw_M_69 rfl rfl rfl ⟨Nat.le_of_ble_eq_true rfl, Nat.le_of_ble_eq_true rfl⟩ hl.1 rfl rfl (Nat.le_of_ble_eq_true rfl) d_M_settle_128 (fun u128 H locs hq128 hP hD hS => ?_)
              have hu128 : u128 = (pwrite 224 (15 : Int32) st.1, st.2) := hq128
              refine lv_aload_n hx hb d_M_settle_131 rfl (lv_at hl 0 rfl) ?_
              refine sw_callVv (rest := []) 0 4 [] hx hb hml hown hts hK hN hA hP hD hS (k_M_changeBack l D cA aM aG u128 _) cw_M_82 rfl rfl rfl ⟨Nat.le_of_ble_eq_true rfl, Nat.le_of_ble_eq_true rfl⟩ hl.1 rfl rfl (Nat.le_of_ble_eq_true rfl) d_M_settle_132 (fun u132 H locs hq132 hP hD hS => ?_)
              have hu132 : u132 = (pback u128.1, u128.2) := hq132
              refine sw_vret (u := u132) hx hb hr hlk hK hP hD hS d_M_settle_135 ?_
              show _ = (msettle st.1, st.2)
              rw [show msettle st.1 = _ from (if_neg (show ¬ masks st.1.1.1 224 = true by rw [h7]; decide)).trans ((if_neg (fun q => by first | (rw [h24] at q; exact absurd q.1 (by decide)) | (rw [h32] at q; exact absurd q.2 (by decide)))).trans ((if_neg (fun q => by first | (rw [h86] at q; exact absurd q.1 (by decide)) | (rw [h94] at q; exact absurd q.2 (by decide)))).trans (if_pos ⟨h111, h119⟩)))]
              rw [hu132, hu128] <;> rfl
        · skip
          refine lv_aload_n hx hb d_M_settle_97 rfl (lv_at hl 0 rfl) ?_
          refine lv_bipush (v := 13) hx hb d_M_settle_98 (by decide) ?_
          refine sw_callVv (rest := []) 0 4 [.int (nI 13)] hx hb hml hown hts hK hN hA hP hD hS (k_M_erase l D cA aM aG st _ 13 (by omega)) cw_M_65 rfl rfl rfl ⟨Nat.le_of_ble_eq_true rfl, Nat.le_of_ble_eq_true rfl⟩ hl.1 rfl rfl (Nat.le_of_ble_eq_true rfl) d_M_settle_100 (fun u100 H locs hq100 hP hD hS => ?_)
          have hu100 : u100 = (perase 13 st.1, st.2) := hq100
          refine lv_goto (tgt := 135) hx hb d_M_settle_103 (by decide) ?_
          refine sw_vret (u := u100) hx hb hr hlk hK hP hD hS d_M_settle_135 ?_
          show _ = (msettle st.1, st.2)
          rw [show msettle st.1 = _ from (if_neg (show ¬ masks st.1.1.1 224 = true by rw [h7]; decide)).trans ((if_neg (fun q => by first | (rw [h24] at q; exact absurd q.1 (by decide)) | (rw [h32] at q; exact absurd q.2 (by decide)))).trans (if_pos ⟨h86, h94⟩))]
          exact hu100
    · skip
      refine lv_aload_n hx hb d_M_settle_27 rfl (lv_at hl 0 rfl) ?_
      refine lv_iconst (v := 1) hx hb d_M_settle_28 (by decide) ?_
      refine sw_callVi (rest := []) 0 4 [.int (nI 1)] hx hb hml hown hts hK hN hA hP hD hS (k_M_isSet l D cA aM aG st _ 1 (by omega)) cw_M_85 rfl rfl rfl ⟨Nat.le_of_ble_eq_true rfl, Nat.le_of_ble_eq_true rfl⟩ hl.1 rfl rfl (Nat.le_of_ble_eq_true rfl) d_M_settle_29 (fun r29 u29 H locs hq29 hP hD hS => ?_)
      obtain ⟨hr29, hq29⟩ := hq29
      rw [hr29]
      rw [hq29] at hP hD
      refine sw_bz_ne (tgt := 81) hx hb d_M_settle_32 (by decide) (fun h32 => ?_) (fun h32 => ?_)
      · skip
        refine lv_aload_n hx hb d_M_settle_81 rfl (lv_at hl 0 rfl) ?_
        refine lv_iconst (v := 1) hx hb d_M_settle_82 (by decide) ?_
        refine sw_callVi (rest := []) 0 4 [.int (nI 1)] hx hb hml hown hts hK hN hA hP hD hS (k_M_isSet l D cA aM aG st _ 1 (by omega)) cw_M_85 rfl rfl rfl ⟨Nat.le_of_ble_eq_true rfl, Nat.le_of_ble_eq_true rfl⟩ hl.1 rfl rfl (Nat.le_of_ble_eq_true rfl) d_M_settle_83 (fun r83 u83 H locs hq83 hP hD hS => ?_)
        obtain ⟨hr83, hq83⟩ := hq83
        rw [hr83]
        rw [hq83] at hP hD
        refine sw_bz_eq (tgt := 106) hx hb d_M_settle_86 (by decide) (fun h86 => ?_) (fun h86 => ?_)
        · skip
          refine lv_aload_n hx hb d_M_settle_106 rfl (lv_at hl 0 rfl) ?_
          refine lv_iconst (v := 1) hx hb d_M_settle_107 (by decide) ?_
          refine sw_callVi (rest := []) 0 4 [.int (nI 1)] hx hb hml hown hts hK hN hA hP hD hS (k_M_isSet l D cA aM aG st _ 1 (by omega)) cw_M_85 rfl rfl rfl ⟨Nat.le_of_ble_eq_true rfl, Nat.le_of_ble_eq_true rfl⟩ hl.1 rfl rfl (Nat.le_of_ble_eq_true rfl) d_M_settle_108 (fun r108 u108 H locs hq108 hP hD hS => ?_)
          obtain ⟨hr108, hq108⟩ := hq108
          rw [hr108]
          rw [hq108] at hP hD
          refine sw_bz_eq (tgt := 135) hx hb d_M_settle_111 (by decide) (fun h111 => ?_) (fun h111 => ?_)
          · skip
            refine sw_vret (u := st) hx hb hr hlk hK hP hD hS d_M_settle_135 ?_
            show _ = (msettle st.1, st.2)
            rw [show msettle st.1 = _ from (if_neg (show ¬ masks st.1.1.1 224 = true by rw [h7]; decide)).trans ((if_neg (fun q => by first | (rw [h24] at q; exact absurd q.1 (by decide)) | (rw [h32] at q; exact absurd q.2 (by decide)))).trans ((if_neg (fun q => by first | (rw [h86] at q; exact absurd q.1 (by decide)) | (rw [h94] at q; exact absurd q.2 (by decide)))).trans (if_neg (fun q => by first | (rw [h111] at q; exact absurd q.1 (by decide)) | (rw [h119] at q; exact absurd q.2 (by decide))))))]
          · skip
            refine lv_aload_n hx hb d_M_settle_114 rfl (lv_at hl 0 rfl) ?_
            refine lv_iconst (v := 3) hx hb d_M_settle_115 (by decide) ?_
            refine sw_callVi (rest := []) 0 4 [.int (nI 3)] hx hb hml hown hts hK hN hA hP hD hS (k_M_isSet l D cA aM aG st _ 3 (by omega)) cw_M_85 rfl rfl rfl ⟨Nat.le_of_ble_eq_true rfl, Nat.le_of_ble_eq_true rfl⟩ hl.1 rfl rfl (Nat.le_of_ble_eq_true rfl) d_M_settle_116 (fun r116 u116 H locs hq116 hP hD hS => ?_)
            obtain ⟨hr116, hq116⟩ := hq116
            rw [hr116]
            rw [hq116] at hP hD
            refine sw_bz_eq (tgt := 135) hx hb d_M_settle_119 (by decide) (fun h119 => ?_) (fun h119 => ?_)
            · skip
              refine sw_vret (u := st) hx hb hr hlk hK hP hD hS d_M_settle_135 ?_
              show _ = (msettle st.1, st.2)
              rw [show msettle st.1 = _ from (if_neg (show ¬ masks st.1.1.1 224 = true by rw [h7]; decide)).trans ((if_neg (fun q => by first | (rw [h24] at q; exact absurd q.1 (by decide)) | (rw [h32] at q; exact absurd q.2 (by decide)))).trans ((if_neg (fun q => by first | (rw [h86] at q; exact absurd q.1 (by decide)) | (rw [h94] at q; exact absurd q.2 (by decide)))).trans (if_neg (fun q => by first | (rw [h111] at q; exact absurd q.1 (by decide)) | (rw [h119] at q; exact absurd q.2 (by decide))))))]
            · skip
              refine lv_aload_n hx hb d_M_settle_122 rfl (lv_at hl 0 rfl) ?_
              refine lv_sipush (v := 224) hx hb d_M_settle_123 (by decide) ?_
              refine lv_bipush (v := 15) hx hb d_M_settle_126 (by decide) ?_
              refine sw_callVv (rest := []) 0 4 [.int (nI 224), .int (15 : Int32)] hx hb hml hown hts hK hN hA hP hD hS (k_M_write l D cA aM aG st _ 224 (15 : Int32) (by omega)) cw_M_69 rfl rfl rfl ⟨Nat.le_of_ble_eq_true rfl, Nat.le_of_ble_eq_true rfl⟩ hl.1 rfl rfl (Nat.le_of_ble_eq_true rfl) d_M_settle_128 (fun u128 H locs hq128 hP hD hS => ?_)
              have hu128 : u128 = (pwrite 224 (15 : Int32) st.1, st.2) := hq128
              refine lv_aload_n hx hb d_M_settle_131 rfl (lv_at hl 0 rfl) ?_
              refine sw_callVv (rest := []) 0 4 [] hx hb hml hown hts hK hN hA hP hD hS (k_M_changeBack l D cA aM aG u128 _) cw_M_82 rfl rfl rfl ⟨Nat.le_of_ble_eq_true rfl, Nat.le_of_ble_eq_true rfl⟩ hl.1 rfl rfl (Nat.le_of_ble_eq_true rfl) d_M_settle_132 (fun u132 H locs hq132 hP hD hS => ?_)
              have hu132 : u132 = (pback u128.1, u128.2) := hq132
              refine sw_vret (u := u132) hx hb hr hlk hK hP hD hS d_M_settle_135 ?_
              show _ = (msettle st.1, st.2)
              rw [show msettle st.1 = _ from (if_neg (show ¬ masks st.1.1.1 224 = true by rw [h7]; decide)).trans ((if_neg (fun q => by first | (rw [h24] at q; exact absurd q.1 (by decide)) | (rw [h32] at q; exact absurd q.2 (by decide)))).trans ((if_neg (fun q => by first | (rw [h86] at q; exact absurd q.1 (by decide)) | (rw [h94] at q; exact absurd q.2 (by decide)))).trans (if_pos ⟨h111, h119⟩)))]
              rw [hu132, hu128] <;> rfl
        · skip
          refine lv_aload_n hx hb d_M_settle_89 rfl (lv_at hl 0 rfl) ?_
          refine lv_iconst (v := 2) hx hb d_M_settle_90 (by decide) ?_
          refine sw_callVi (rest := []) 0 4 [.int (nI 2)] hx hb hml hown hts hK hN hA hP hD hS (k_M_isSet l D cA aM aG st _ 2 (by omega)) cw_M_85 rfl rfl rfl ⟨Nat.le_of_ble_eq_true rfl, Nat.le_of_ble_eq_true rfl⟩ hl.1 rfl rfl (Nat.le_of_ble_eq_true rfl) d_M_settle_91 (fun r91 u91 H locs hq91 hP hD hS => ?_)
          obtain ⟨hr91, hq91⟩ := hq91
          rw [hr91]
          rw [hq91] at hP hD
          refine sw_bz_eq (tgt := 106) hx hb d_M_settle_94 (by decide) (fun h94 => ?_) (fun h94 => ?_)
          · skip
            refine lv_aload_n hx hb d_M_settle_106 rfl (lv_at hl 0 rfl) ?_
            refine lv_iconst (v := 1) hx hb d_M_settle_107 (by decide) ?_
            refine sw_callVi (rest := []) 0 4 [.int (nI 1)] hx hb hml hown hts hK hN hA hP hD hS (k_M_isSet l D cA aM aG st _ 1 (by omega)) cw_M_85 rfl rfl rfl ⟨Nat.le_of_ble_eq_true rfl, Nat.le_of_ble_eq_true rfl⟩ hl.1 rfl rfl (Nat.le_of_ble_eq_true rfl) d_M_settle_108 (fun r108 u108 H locs hq108 hP hD hS => ?_)
            obtain ⟨hr108, hq108⟩ := hq108
            rw [hr108]
            rw [hq108] at hP hD
            refine sw_bz_eq (tgt := 135) hx hb d_M_settle_111 (by decide) (fun h111 => ?_) (fun h111 => ?_)
            · skip
              refine sw_vret (u := st) hx hb hr hlk hK hP hD hS d_M_settle_135 ?_
              show _ = (msettle st.1, st.2)
              rw [show msettle st.1 = _ from (if_neg (show ¬ masks st.1.1.1 224 = true by rw [h7]; decide)).trans ((if_neg (fun q => by first | (rw [h24] at q; exact absurd q.1 (by decide)) | (rw [h32] at q; exact absurd q.2 (by decide)))).trans ((if_neg (fun q => by first | (rw [h86] at q; exact absurd q.1 (by decide)) | (rw [h94] at q; exact absurd q.2 (by decide)))).trans (if_neg (fun q => by first | (rw [h111] at q; exact absurd q.1 (by decide)) | (rw [h119] at q; exact absurd q.2 (by decide))))))]
            · skip
              refine lv_aload_n hx hb d_M_settle_114 rfl (lv_at hl 0 rfl) ?_
              refine lv_iconst (v := 3) hx hb d_M_settle_115 (by decide) ?_
              refine sw_callVi (rest := []) 0 4 [.int (nI 3)] hx hb hml hown hts hK hN hA hP hD hS (k_M_isSet l D cA aM aG st _ 3 (by omega)) cw_M_85 rfl rfl rfl ⟨Nat.le_of_ble_eq_true rfl, Nat.le_of_ble_eq_true rfl⟩ hl.1 rfl rfl (Nat.le_of_ble_eq_true rfl) d_M_settle_116 (fun r116 u116 H locs hq116 hP hD hS => ?_)
              obtain ⟨hr116, hq116⟩ := hq116
              rw [hr116]
              rw [hq116] at hP hD
              refine sw_bz_eq (tgt := 135) hx hb d_M_settle_119 (by decide) (fun h119 => ?_) (fun h119 => ?_)
              · skip
                refine sw_vret (u := st) hx hb hr hlk hK hP hD hS d_M_settle_135 ?_
                show _ = (msettle st.1, st.2)
                rw [show msettle st.1 = _ from (if_neg (show ¬ masks st.1.1.1 224 = true by rw [h7]; decide)).trans ((if_neg (fun q => by first | (rw [h24] at q; exact absurd q.1 (by decide)) | (rw [h32] at q; exact absurd q.2 (by decide)))).trans ((if_neg (fun q => by first | (rw [h86] at q; exact absurd q.1 (by decide)) | (rw [h94] at q; exact absurd q.2 (by decide)))).trans (if_neg (fun q => by first | (rw [h111] at q; exact absurd q.1 (by decide)) | (rw [h119] at q; exact absurd q.2 (by decide))))))]
              · skip
                refine lv_aload_n hx hb d_M_settle_122 rfl (lv_at hl 0 rfl) ?_
                refine lv_sipush (v := 224) hx hb d_M_settle_123 (by decide) ?_
                refine lv_bipush (v := 15) hx hb d_M_settle_126 (by decide) ?_
                refine sw_callVv (rest := []) 0 4 [.int (nI 224), .int (15 : Int32)] hx hb hml hown hts hK hN hA hP hD hS (k_M_write l D cA aM aG st _ 224 (15 : Int32) (by omega)) cw_M_69 rfl rfl rfl ⟨Nat.le_of_ble_eq_true rfl, Nat.le_of_ble_eq_true rfl⟩ hl.1 rfl rfl (Nat.le_of_ble_eq_true rfl) d_M_settle_128 (fun u128 H locs hq128 hP hD hS => ?_)
                have hu128 : u128 = (pwrite 224 (15 : Int32) st.1, st.2) := hq128
                refine lv_aload_n hx hb d_M_settle_131 rfl (lv_at hl 0 rfl) ?_
                refine sw_callVv (rest := []) 0 4 [] hx hb hml hown hts hK hN hA hP hD hS (k_M_changeBack l D cA aM aG u128 _) cw_M_82 rfl rfl rfl ⟨Nat.le_of_ble_eq_true rfl, Nat.le_of_ble_eq_true rfl⟩ hl.1 rfl rfl (Nat.le_of_ble_eq_true rfl) d_M_settle_132 (fun u132 H locs hq132 hP hD hS => ?_)
                have hu132 : u132 = (pback u128.1, u128.2) := hq132
                refine sw_vret (u := u132) hx hb hr hlk hK hP hD hS d_M_settle_135 ?_
                show _ = (msettle st.1, st.2)
                rw [show msettle st.1 = _ from (if_neg (show ¬ masks st.1.1.1 224 = true by rw [h7]; decide)).trans ((if_neg (fun q => by first | (rw [h24] at q; exact absurd q.1 (by decide)) | (rw [h32] at q; exact absurd q.2 (by decide)))).trans ((if_neg (fun q => by first | (rw [h86] at q; exact absurd q.1 (by decide)) | (rw [h94] at q; exact absurd q.2 (by decide)))).trans (if_pos ⟨h111, h119⟩)))]
                rw [hu132, hu128] <;> rfl
          · skip
            refine lv_aload_n hx hb d_M_settle_97 rfl (lv_at hl 0 rfl) ?_
            refine lv_bipush (v := 13) hx hb d_M_settle_98 (by decide) ?_
            refine sw_callVv (rest := []) 0 4 [.int (nI 13)] hx hb hml hown hts hK hN hA hP hD hS (k_M_erase l D cA aM aG st _ 13 (by omega)) cw_M_65 rfl rfl rfl ⟨Nat.le_of_ble_eq_true rfl, Nat.le_of_ble_eq_true rfl⟩ hl.1 rfl rfl (Nat.le_of_ble_eq_true rfl) d_M_settle_100 (fun u100 H locs hq100 hP hD hS => ?_)
            have hu100 : u100 = (perase 13 st.1, st.2) := hq100
            refine lv_goto (tgt := 135) hx hb d_M_settle_103 (by decide) ?_
            refine sw_vret (u := u100) hx hb hr hlk hK hP hD hS d_M_settle_135 ?_
            show _ = (msettle st.1, st.2)
            rw [show msettle st.1 = _ from (if_neg (show ¬ masks st.1.1.1 224 = true by rw [h7]; decide)).trans ((if_neg (fun q => by first | (rw [h24] at q; exact absurd q.1 (by decide)) | (rw [h32] at q; exact absurd q.2 (by decide)))).trans (if_pos ⟨h86, h94⟩))]
            exact hu100
      · skip
        refine lv_aload_n hx hb d_M_settle_35 rfl (lv_at hl 0 rfl) ?_
        refine lv_sipush (v := 208) hx hb d_M_settle_36 (by decide) ?_
        refine sw_callVi (rest := []) 0 4 [.int (nI 208)] hx hb hml hown hts hK hN hA hP hD hS (k_M_stepsDone l D cA aM aG st _ 13 (by omega)) cw_M_88 rfl rfl rfl ⟨Nat.le_of_ble_eq_true rfl, Nat.le_of_ble_eq_true rfl⟩ hl.1 rfl rfl (Nat.le_of_ble_eq_true rfl) d_M_settle_39 (fun r39 u39 H locs hq39 hP hD hS => ?_)
        obtain ⟨hr39, hq39⟩ := hq39
        rw [hr39]
        rw [hq39] at hP hD
        refine sw_nz_ne (a := pcnt st.1.1.1 13 18 0 0) (tgt := 63) hx hb (by omega) d_M_settle_42 (by decide) (fun h42 => ?_) (fun h42 => ?_)
        · skip
          refine lv_aload_n hx hb d_M_settle_63 rfl (lv_at hl 0 rfl) ?_
          refine lv_sipush (v := 208) hx hb d_M_settle_64 (by decide) ?_
          refine sw_callVv (rest := []) 0 4 [.int (nI 208)] hx hb hml hown hts hK hN hA hP hD hS (k_M_change l D cA aM aG st _ 13 (by omega)) cw_M_79 rfl rfl rfl ⟨Nat.le_of_ble_eq_true rfl, Nat.le_of_ble_eq_true rfl⟩ hl.1 rfl rfl (Nat.le_of_ble_eq_true rfl) d_M_settle_67 (fun u67 H locs hq67 hP hD hS => ?_)
          have hu67 : u67 = (pchange 13 st.1, st.2) := hq67
          refine lv_aload_n hx hb d_M_settle_70 rfl (lv_at hl 0 rfl) ?_
          refine lv_sipush (v := 209) hx hb d_M_settle_71 (by decide) ?_
          refine lv_iconst (v := 0) hx hb d_M_settle_74 (by decide) ?_
          refine sw_callVv (rest := []) 0 4 [.int (nI 209), .int (0 : Int32)] hx hb hml hown hts hK hN hA hP hD hS (k_M_write l D cA aM aG u67 _ 209 (0 : Int32) (by omega)) cw_M_69 rfl rfl rfl ⟨Nat.le_of_ble_eq_true rfl, Nat.le_of_ble_eq_true rfl⟩ hl.1 rfl rfl (Nat.le_of_ble_eq_true rfl) d_M_settle_75 (fun u75 H locs hq75 hP hD hS => ?_)
          have hu75 : u75 = (pwrite 209 (0 : Int32) u67.1, u67.2) := hq75
          refine lv_goto (tgt := 135) hx hb d_M_settle_78 (by decide) ?_
          refine sw_vret (u := u75) hx hb hr hlk hK hP hD hS d_M_settle_135 ?_
          show _ = (msettle st.1, st.2)
          rw [show msettle st.1 = _ from (if_neg (show ¬ masks st.1.1.1 224 = true by rw [h7]; decide)).trans (if_pos ⟨h24, h32⟩)]
          rw [show ptry st.1 = _ from if_neg (fun q => by first | exact h42 q.1 | exact h51 q.2), hu75, hu67] <;> rfl
        · skip
          refine lv_aload_n hx hb d_M_settle_45 rfl (lv_at hl 0 rfl) ?_
          refine lv_bipush (v := 96) hx hb d_M_settle_46 (by decide) ?_
          refine sw_callVi (rest := []) 0 4 [.int (nI 96)] hx hb hml hown hts hK hN hA hP hD hS (k_M_image l D cA aM aG st _ 96 (by omega)) cw_M_92 rfl rfl rfl ⟨Nat.le_of_ble_eq_true rfl, Nat.le_of_ble_eq_true rfl⟩ hl.1 rfl rfl (Nat.le_of_ble_eq_true rfl) d_M_settle_48 (fun r48 u48 H locs hq48 hP hD hS => ?_)
          obtain ⟨hr48, hq48⟩ := hq48
          rw [hr48]
          rw [hq48] at hP hD
          refine lv_if_ne (tgt := 63) hx hb d_M_settle_51 (by decide) (fun h51 => ?_) (fun h51 => ?_)
          · skip
            refine lv_aload_n hx hb d_M_settle_63 rfl (lv_at hl 0 rfl) ?_
            refine lv_sipush (v := 208) hx hb d_M_settle_64 (by decide) ?_
            refine sw_callVv (rest := []) 0 4 [.int (nI 208)] hx hb hml hown hts hK hN hA hP hD hS (k_M_change l D cA aM aG st _ 13 (by omega)) cw_M_79 rfl rfl rfl ⟨Nat.le_of_ble_eq_true rfl, Nat.le_of_ble_eq_true rfl⟩ hl.1 rfl rfl (Nat.le_of_ble_eq_true rfl) d_M_settle_67 (fun u67 H locs hq67 hP hD hS => ?_)
            have hu67 : u67 = (pchange 13 st.1, st.2) := hq67
            refine lv_aload_n hx hb d_M_settle_70 rfl (lv_at hl 0 rfl) ?_
            refine lv_sipush (v := 209) hx hb d_M_settle_71 (by decide) ?_
            refine lv_iconst (v := 0) hx hb d_M_settle_74 (by decide) ?_
            refine sw_callVv (rest := []) 0 4 [.int (nI 209), .int (0 : Int32)] hx hb hml hown hts hK hN hA hP hD hS (k_M_write l D cA aM aG u67 _ 209 (0 : Int32) (by omega)) cw_M_69 rfl rfl rfl ⟨Nat.le_of_ble_eq_true rfl, Nat.le_of_ble_eq_true rfl⟩ hl.1 rfl rfl (Nat.le_of_ble_eq_true rfl) d_M_settle_75 (fun u75 H locs hq75 hP hD hS => ?_)
            have hu75 : u75 = (pwrite 209 (0 : Int32) u67.1, u67.2) := hq75
            refine lv_goto (tgt := 135) hx hb d_M_settle_78 (by decide) ?_
            refine sw_vret (u := u75) hx hb hr hlk hK hP hD hS d_M_settle_135 ?_
            show _ = (msettle st.1, st.2)
            rw [show msettle st.1 = _ from (if_neg (show ¬ masks st.1.1.1 224 = true by rw [h7]; decide)).trans (if_pos ⟨h24, h32⟩)]
            rw [show ptry st.1 = _ from if_neg (fun q => by first | exact h42 q.1 | exact h51 q.2), hu75, hu67] <;> rfl
          · skip
            refine lv_aload_n hx hb d_M_settle_54 rfl (lv_at hl 0 rfl) ?_
            refine lv_bipush (v := 13) hx hb d_M_settle_55 (by decide) ?_
            refine sw_callVv (rest := []) 0 4 [.int (nI 13)] hx hb hml hown hts hK hN hA hP hD hS (k_M_erase l D cA aM aG st _ 13 (by omega)) cw_M_65 rfl rfl rfl ⟨Nat.le_of_ble_eq_true rfl, Nat.le_of_ble_eq_true rfl⟩ hl.1 rfl rfl (Nat.le_of_ble_eq_true rfl) d_M_settle_57 (fun u57 H locs hq57 hP hD hS => ?_)
            have hu57 : u57 = (perase 13 st.1, st.2) := hq57
            refine lv_goto (tgt := 135) hx hb d_M_settle_60 (by decide) ?_
            refine sw_vret (u := u57) hx hb hr hlk hK hP hD hS d_M_settle_135 ?_
            show _ = (msettle st.1, st.2)
            rw [show msettle st.1 = _ from (if_neg (show ¬ masks st.1.1.1 224 = true by rw [h7]; decide)).trans (if_pos ⟨h24, h32⟩)]
            rw [show ptry st.1 = perase 13 st.1 from if_pos ⟨h42, h51⟩]
            exact hu57
  · skip
    refine lv_aload_n hx hb d_M_settle_10 rfl (lv_at hl 0 rfl) ?_
    refine sw_callVv (rest := []) 0 4 [] hx hb hml hown hts hK hN hA hP hD hS (k_M_changeBack l D cA aM aG st _) cw_M_82 rfl rfl rfl ⟨Nat.le_of_ble_eq_true rfl, Nat.le_of_ble_eq_true rfl⟩ hl.1 rfl rfl (Nat.le_of_ble_eq_true rfl) d_M_settle_11 (fun u11 H locs hq11 hP hD hS => ?_)
    have hu11 : u11 = (pback st.1, st.2) := hq11
    refine lv_goto (tgt := 135) hx hb d_M_settle_14 (by decide) ?_
    refine sw_vret (u := u11) hx hb hr hlk hK hP hD hS d_M_settle_135 ?_
    show _ = (msettle st.1, st.2)
    rw [show msettle st.1 = _ from if_pos h7]
    exact hu11
