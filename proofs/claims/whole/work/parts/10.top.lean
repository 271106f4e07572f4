/-! 10.top: by program (wip/whole/src/gen.py) out of the bytecode and the specs. -/
theorem d_X_losePower_0 : decode b_X_losePower 0 = .ok (.aload_n 0, 1) := by decide +kernel
theorem d_X_losePower_1 : decode b_X_losePower 1 = .ok (.iconst 0, 1) := by decide +kernel
theorem d_X_losePower_2 : decode b_X_losePower 2 = .ok (.putfield 32, 3) := by decide +kernel
theorem d_X_losePower_5 : decode b_X_losePower 5 = .ok (.aload_n 0, 1) := by decide +kernel
theorem d_X_losePower_6 : decode b_X_losePower 6 = .ok (.iconst 0, 1) := by decide +kernel
theorem d_X_losePower_7 : decode b_X_losePower 7 = .ok (.putfield 36, 3) := by decide +kernel
theorem d_X_losePower_10 : decode b_X_losePower 10 = .ok (.aload_n 0, 1) := by decide +kernel
theorem d_X_losePower_11 : decode b_X_losePower 11 = .ok (.getfield 28, 3) := by decide +kernel
theorem d_X_losePower_14 : decode b_X_losePower 14 = .ok (.invokevirtual 129, 3) := by decide +kernel
theorem d_X_losePower_17 : decode b_X_losePower 17 = .ok (.return_, 1) := by decide +kernel
theorem d_X_powerGone_0 : decode b_X_powerGone 0 = .ok (.aload_n 0, 1) := by decide +kernel
theorem d_X_powerGone_1 : decode b_X_powerGone 1 = .ok (.invokevirtual 44, 3) := by decide +kernel
theorem d_X_powerGone_4 : decode b_X_powerGone 4 = .ok (.bipush (-2), 2) := by decide +kernel
theorem d_X_powerGone_6 : decode b_X_powerGone 6 = .ok (.ireturn, 1) := by decide +kernel
theorem d_X_off_0 : decode b_X_off 0 = .ok (.aload_n 0, 1) := by decide +kernel
theorem d_X_off_1 : decode b_X_off 1 = .ok (.getfield 32, 3) := by decide +kernel
theorem d_X_off_4 : decode b_X_off 4 = .ok (.istore_n 1, 1) := by decide +kernel
theorem d_X_off_5 : decode b_X_off 5 = .ok (.aload_n 0, 1) := by decide +kernel
theorem d_X_off_6 : decode b_X_off 6 = .ok (.invokevirtual 44, 3) := by decide +kernel
theorem d_X_off_9 : decode b_X_off 9 = .ok (.iload_n 1, 1) := by decide +kernel
theorem d_X_off_10 : decode b_X_off 10 = .ok (.ireturn, 1) := by decide +kernel
theorem d_X_cut_0 : decode b_X_cut 0 = .ok (.iload_n 1, 1) := by decide +kernel
theorem d_X_cut_1 : decode b_X_cut 1 = .ok (.ifCond .lt 10, 3) := by decide +kernel
theorem d_X_cut_4 : decode b_X_cut 4 = .ok (.iload_n 1, 1) := by decide +kernel
theorem d_X_cut_5 : decode b_X_cut 5 = .ok (.sipush 1000, 3) := by decide +kernel
theorem d_X_cut_8 : decode b_X_cut 8 = .ok (.if_icmp .le 5, 3) := by decide +kernel
theorem d_X_cut_11 : decode b_X_cut 11 = .ok (.iconst 0, 1) := by decide +kernel
theorem d_X_cut_12 : decode b_X_cut 12 = .ok (.ireturn, 1) := by decide +kernel
theorem d_X_cut_13 : decode b_X_cut 13 = .ok (.aload_n 0, 1) := by decide +kernel
theorem d_X_cut_14 : decode b_X_cut 14 = .ok (.getfield 12, 3) := by decide +kernel
theorem d_X_cut_17 : decode b_X_cut 17 = .ok (.iload_n 1, 1) := by decide +kernel
theorem d_X_cut_18 : decode b_X_cut 18 = .ok (.invokevirtual 72, 3) := by decide +kernel
theorem d_X_cut_21 : decode b_X_cut 21 = .ok (.iconst 1, 1) := by decide +kernel
theorem d_X_cut_22 : decode b_X_cut 22 = .ok (.ireturn, 1) := by decide +kernel
theorem d_X_safe_0 : decode b_X_safe 0 = .ok (.aload_n 0, 1) := by decide +kernel
theorem d_X_safe_1 : decode b_X_safe 1 = .ok (.getfield 12, 3) := by decide +kernel
theorem d_X_safe_4 : decode b_X_safe 4 = .ok (.invokevirtual 76, 3) := by decide +kernel
theorem d_X_safe_7 : decode b_X_safe 7 = .ok (.istore_n 1, 1) := by decide +kernel
theorem d_X_safe_8 : decode b_X_safe 8 = .ok (.aload_n 0, 1) := by decide +kernel
theorem d_X_safe_9 : decode b_X_safe 9 = .ok (.getfield 12, 3) := by decide +kernel
theorem d_X_safe_12 : decode b_X_safe 12 = .ok (.invokevirtual 47, 3) := by decide +kernel
theorem d_X_safe_15 : decode b_X_safe 15 = .ok (.iload_n 1, 1) := by decide +kernel
theorem d_X_safe_16 : decode b_X_safe 16 = .ok (.ireturn, 1) := by decide +kernel
theorem d_X_boot_0 : decode b_X_boot 0 = .ok (.aload_n 0, 1) := by decide +kernel
theorem d_X_boot_1 : decode b_X_boot 1 = .ok (.invokevirtual 44, 3) := by decide +kernel
theorem d_X_boot_4 : decode b_X_boot 4 = .ok (.aload_n 0, 1) := by decide +kernel
theorem d_X_boot_5 : decode b_X_boot 5 = .ok (.iconst 1, 1) := by decide +kernel
theorem d_X_boot_6 : decode b_X_boot 6 = .ok (.putfield 32, 3) := by decide +kernel
theorem d_X_boot_9 : decode b_X_boot 9 = .ok (.aload_n 0, 1) := by decide +kernel
theorem d_X_boot_10 : decode b_X_boot 10 = .ok (.getfield 21, 3) := by decide +kernel
theorem d_X_boot_13 : decode b_X_boot 13 = .ok (.invokevirtual 57, 3) := by decide +kernel
theorem d_X_boot_16 : decode b_X_boot 16 = .ok (.ifCond .eq 13, 3) := by decide +kernel
theorem d_X_boot_19 : decode b_X_boot 19 = .ok (.aload_n 0, 1) := by decide +kernel
theorem d_X_boot_20 : decode b_X_boot 20 = .ok (.getfield 21, 3) := by decide +kernel
theorem d_X_boot_23 : decode b_X_boot 23 = .ok (.invokevirtual 61, 3) := by decide +kernel
theorem d_X_boot_26 : decode b_X_boot 26 = .ok (.ifCond .ne 8, 3) := by decide +kernel
theorem d_X_boot_29 : decode b_X_boot 29 = .ok (.aload_n 0, 1) := by decide +kernel
theorem d_X_boot_30 : decode b_X_boot 30 = .ok (.invokevirtual 64, 3) := by decide +kernel
theorem d_X_boot_33 : decode b_X_boot 33 = .ok (.ireturn, 1) := by decide +kernel
theorem d_X_boot_34 : decode b_X_boot 34 = .ok (.aload_n 0, 1) := by decide +kernel
theorem d_X_boot_35 : decode b_X_boot 35 = .ok (.aload_n 0, 1) := by decide +kernel
theorem d_X_boot_36 : decode b_X_boot 36 = .ok (.getfield 12, 3) := by decide +kernel
theorem d_X_boot_39 : decode b_X_boot 39 = .ok (.iconst 0, 1) := by decide +kernel
theorem d_X_boot_40 : decode b_X_boot 40 = .ok (.invokevirtual 68, 3) := by decide +kernel
theorem d_X_boot_43 : decode b_X_boot 43 = .ok (.putfield 36, 3) := by decide +kernel
theorem d_X_boot_46 : decode b_X_boot 46 = .ok (.aload_n 0, 1) := by decide +kernel
theorem d_X_boot_47 : decode b_X_boot 47 = .ok (.getfield 36, 3) := by decide +kernel
theorem d_X_boot_50 : decode b_X_boot 50 = .ok (.ireturn, 1) := by decide +kernel
theorem d_X_request_0 : decode b_X_request 0 = .ok (.aload_n 0, 1) := by decide +kernel
theorem d_X_request_1 : decode b_X_request 1 = .ok (.getfield 36, 3) := by decide +kernel
theorem d_X_request_4 : decode b_X_request 4 = .ok (.ifCond .eq 13, 3) := by decide +kernel
theorem d_X_request_7 : decode b_X_request 7 = .ok (.aload_n 0, 1) := by decide +kernel
theorem d_X_request_8 : decode b_X_request 8 = .ok (.getfield 21, 3) := by decide +kernel
theorem d_X_request_11 : decode b_X_request 11 = .ok (.invokevirtual 79, 3) := by decide +kernel
theorem d_X_request_14 : decode b_X_request 14 = .ok (.ifCond .eq 5, 3) := by decide +kernel
theorem d_X_request_17 : decode b_X_request 17 = .ok (.iconst (-1), 1) := by decide +kernel
theorem d_X_request_18 : decode b_X_request 18 = .ok (.ireturn, 1) := by decide +kernel
theorem d_X_request_19 : decode b_X_request 19 = .ok (.aload_n 0, 1) := by decide +kernel
theorem d_X_request_20 : decode b_X_request 20 = .ok (.getfield 12, 3) := by decide +kernel
theorem d_X_request_23 : decode b_X_request 23 = .ok (.bipush 96, 2) := by decide +kernel
theorem d_X_request_25 : decode b_X_request 25 = .ok (.invokevirtual 68, 3) := by decide +kernel
theorem d_X_request_28 : decode b_X_request 28 = .ok (.ifCond .ne 5, 3) := by decide +kernel
theorem d_X_request_31 : decode b_X_request 31 = .ok (.iconst 0, 1) := by decide +kernel
theorem d_X_request_32 : decode b_X_request 32 = .ok (.ireturn, 1) := by decide +kernel
theorem d_X_request_33 : decode b_X_request 33 = .ok (.aload_n 0, 1) := by decide +kernel
theorem d_X_request_34 : decode b_X_request 34 = .ok (.getfield 21, 3) := by decide +kernel
theorem d_X_request_37 : decode b_X_request 37 = .ok (.invokevirtual 102, 3) := by decide +kernel
theorem d_X_request_40 : decode b_X_request 40 = .ok (.ifCond .eq 7, 3) := by decide +kernel
theorem d_X_request_43 : decode b_X_request 43 = .ok (.iconst 1, 1) := by decide +kernel
theorem d_X_request_44 : decode b_X_request 44 = .ok (.goto 7, 3) := by decide +kernel
theorem d_X_request_47 : decode b_X_request 47 = .ok (.aload_n 0, 1) := by decide +kernel
theorem d_X_request_48 : decode b_X_request 48 = .ok (.invokevirtual 64, 3) := by decide +kernel
theorem d_X_request_51 : decode b_X_request 51 = .ok (.ireturn, 1) := by decide +kernel
theorem d_X_confirm_0 : decode b_X_confirm 0 = .ok (.aload_n 0, 1) := by decide +kernel
theorem d_X_confirm_1 : decode b_X_confirm 1 = .ok (.getfield 36, 3) := by decide +kernel
theorem d_X_confirm_4 : decode b_X_confirm 4 = .ok (.ifCond .eq 13, 3) := by decide +kernel
theorem d_X_confirm_7 : decode b_X_confirm 7 = .ok (.aload_n 0, 1) := by decide +kernel
theorem d_X_confirm_8 : decode b_X_confirm 8 = .ok (.getfield 21, 3) := by decide +kernel
theorem d_X_confirm_11 : decode b_X_confirm 11 = .ok (.invokevirtual 105, 3) := by decide +kernel
theorem d_X_confirm_14 : decode b_X_confirm 14 = .ok (.ifCond .ne 5, 3) := by decide +kernel
theorem d_X_confirm_17 : decode b_X_confirm 17 = .ok (.iconst (-1), 1) := by decide +kernel
theorem d_X_confirm_18 : decode b_X_confirm 18 = .ok (.ireturn, 1) := by decide +kernel
theorem d_X_confirm_19 : decode b_X_confirm 19 = .ok (.aload_n 0, 1) := by decide +kernel
theorem d_X_confirm_20 : decode b_X_confirm 20 = .ok (.getfield 21, 3) := by decide +kernel
theorem d_X_confirm_23 : decode b_X_confirm 23 = .ok (.invokevirtual 108, 3) := by decide +kernel
theorem d_X_confirm_26 : decode b_X_confirm 26 = .ok (.ifCond .eq 7, 3) := by decide +kernel
theorem d_X_confirm_29 : decode b_X_confirm 29 = .ok (.iconst 1, 1) := by decide +kernel
theorem d_X_confirm_30 : decode b_X_confirm 30 = .ok (.goto 7, 3) := by decide +kernel
theorem d_X_confirm_33 : decode b_X_confirm 33 = .ok (.aload_n 0, 1) := by decide +kernel
theorem d_X_confirm_34 : decode b_X_confirm 34 = .ok (.invokevirtual 64, 3) := by decide +kernel
theorem d_X_confirm_37 : decode b_X_confirm 37 = .ok (.ireturn, 1) := by decide +kernel
theorem d_X_version_0 : decode b_X_version 0 = .ok (.iload_n 1, 1) := by decide +kernel
theorem d_X_version_1 : decode b_X_version 1 = .ok (.lookupswitch 46 #[(0, 27), (1, 36)], 27) := by decide +kernel
theorem d_X_version_28 : decode b_X_version 28 = .ok (.aload_n 0, 1) := by decide +kernel
theorem d_X_version_29 : decode b_X_version 29 = .ok (.getfield 12, 3) := by decide +kernel
theorem d_X_version_32 : decode b_X_version 32 = .ok (.iconst 0, 1) := by decide +kernel
theorem d_X_version_33 : decode b_X_version 33 = .ok (.invokevirtual 68, 3) := by decide +kernel
theorem d_X_version_36 : decode b_X_version 36 = .ok (.ireturn, 1) := by decide +kernel
theorem d_X_version_37 : decode b_X_version 37 = .ok (.aload_n 0, 1) := by decide +kernel
theorem d_X_version_38 : decode b_X_version 38 = .ok (.getfield 12, 3) := by decide +kernel
theorem d_X_version_41 : decode b_X_version 41 = .ok (.bipush 96, 2) := by decide +kernel
theorem d_X_version_43 : decode b_X_version 43 = .ok (.invokevirtual 68, 3) := by decide +kernel
theorem d_X_version_46 : decode b_X_version 46 = .ok (.ireturn, 1) := by decide +kernel
theorem d_X_version_47 : decode b_X_version 47 = .ok (.iconst (-1), 1) := by decide +kernel
theorem d_X_version_48 : decode b_X_version 48 = .ok (.ireturn, 1) := by decide +kernel
theorem d_X_state_0 : decode b_X_state 0 = .ok (.iload_n 1, 1) := by decide +kernel
theorem d_X_state_1 : decode b_X_state 1 = .ok (.tableswitch 117 0 7 #[47, 60, 65, 73, 81, 91, 101, 109], 47) := by decide +kernel
theorem d_X_state_48 : decode b_X_state 48 = .ok (.aload_n 0, 1) := by decide +kernel
theorem d_X_state_49 : decode b_X_state 49 = .ok (.getfield 32, 3) := by decide +kernel
theorem d_X_state_52 : decode b_X_state 52 = .ok (.ifCond .eq 7, 3) := by decide +kernel
theorem d_X_state_55 : decode b_X_state 55 = .ok (.iconst 1, 1) := by decide +kernel
theorem d_X_state_56 : decode b_X_state 56 = .ok (.goto 4, 3) := by decide +kernel
theorem d_X_state_59 : decode b_X_state 59 = .ok (.iconst 0, 1) := by decide +kernel
theorem d_X_state_60 : decode b_X_state 60 = .ok (.ireturn, 1) := by decide +kernel
theorem d_X_state_61 : decode b_X_state 61 = .ok (.aload_n 0, 1) := by decide +kernel
theorem d_X_state_62 : decode b_X_state 62 = .ok (.getfield 36, 3) := by decide +kernel
theorem d_X_state_65 : decode b_X_state 65 = .ok (.ireturn, 1) := by decide +kernel
theorem d_X_state_66 : decode b_X_state 66 = .ok (.aload_n 0, 1) := by decide +kernel
theorem d_X_state_67 : decode b_X_state 67 = .ok (.getfield 28, 3) := by decide +kernel
theorem d_X_state_70 : decode b_X_state 70 = .ok (.invokevirtual 90, 3) := by decide +kernel
theorem d_X_state_73 : decode b_X_state 73 = .ok (.ireturn, 1) := by decide +kernel
theorem d_X_state_74 : decode b_X_state 74 = .ok (.aload_n 0, 1) := by decide +kernel
theorem d_X_state_75 : decode b_X_state 75 = .ok (.getfield 28, 3) := by decide +kernel
theorem d_X_state_78 : decode b_X_state 78 = .ok (.invokevirtual 117, 3) := by decide +kernel
theorem d_X_state_81 : decode b_X_state 81 = .ok (.ireturn, 1) := by decide +kernel
theorem d_X_state_82 : decode b_X_state 82 = .ok (.aload_n 0, 1) := by decide +kernel
theorem d_X_state_83 : decode b_X_state 83 = .ok (.getfield 21, 3) := by decide +kernel
theorem d_X_state_86 : decode b_X_state 86 = .ok (.bipush 13, 2) := by decide +kernel
theorem d_X_state_88 : decode b_X_state 88 = .ok (.invokevirtual 120, 3) := by decide +kernel
theorem d_X_state_91 : decode b_X_state 91 = .ok (.ireturn, 1) := by decide +kernel
theorem d_X_state_92 : decode b_X_state 92 = .ok (.aload_n 0, 1) := by decide +kernel
theorem d_X_state_93 : decode b_X_state 93 = .ok (.getfield 21, 3) := by decide +kernel
theorem d_X_state_96 : decode b_X_state 96 = .ok (.bipush 14, 2) := by decide +kernel
theorem d_X_state_98 : decode b_X_state 98 = .ok (.invokevirtual 120, 3) := by decide +kernel
theorem d_X_state_101 : decode b_X_state 101 = .ok (.ireturn, 1) := by decide +kernel
theorem d_X_state_102 : decode b_X_state 102 = .ok (.aload_n 0, 1) := by decide +kernel
theorem d_X_state_103 : decode b_X_state 103 = .ok (.getfield 12, 3) := by decide +kernel
theorem d_X_state_106 : decode b_X_state 106 = .ok (.invokevirtual 123, 3) := by decide +kernel
theorem d_X_state_109 : decode b_X_state 109 = .ok (.ireturn, 1) := by decide +kernel
theorem d_X_state_110 : decode b_X_state 110 = .ok (.aload_n 0, 1) := by decide +kernel
theorem d_X_state_111 : decode b_X_state 111 = .ok (.getfield 12, 3) := by decide +kernel
theorem d_X_state_114 : decode b_X_state 114 = .ok (.invokevirtual 126, 3) := by decide +kernel
theorem d_X_state_117 : decode b_X_state 117 = .ok (.ireturn, 1) := by decide +kernel
theorem d_X_state_118 : decode b_X_state 118 = .ok (.iconst (-1), 1) := by decide +kernel
theorem d_X_state_119 : decode b_X_state 119 = .ok (.ireturn, 1) := by decide +kernel
theorem d_X_begin_0 : decode b_X_begin 0 = .ok (.aload_n 0, 1) := by decide +kernel
theorem d_X_begin_1 : decode b_X_begin 1 = .ok (.getfield 36, 3) := by decide +kernel
theorem d_X_begin_4 : decode b_X_begin 4 = .ok (.ifCond .eq 21, 3) := by decide +kernel
theorem d_X_begin_7 : decode b_X_begin 7 = .ok (.iload_n 1, 1) := by decide +kernel
theorem d_X_begin_8 : decode b_X_begin 8 = .ok (.iload_n 2, 1) := by decide +kernel
theorem d_X_begin_9 : decode b_X_begin 9 = .ok (.invokestatic 40, 3) := by decide +kernel
theorem d_X_begin_12 : decode b_X_begin 12 = .ok (.ifCond .eq 13, 3) := by decide +kernel
theorem d_X_begin_15 : decode b_X_begin 15 = .ok (.aload_n 0, 1) := by decide +kernel
theorem d_X_begin_16 : decode b_X_begin 16 = .ok (.getfield 21, 3) := by decide +kernel
theorem d_X_begin_19 : decode b_X_begin 19 = .ok (.invokevirtual 79, 3) := by decide +kernel
theorem d_X_begin_22 : decode b_X_begin 22 = .ok (.ifCond .eq 5, 3) := by decide +kernel
theorem d_X_begin_25 : decode b_X_begin 25 = .ok (.iconst (-1), 1) := by decide +kernel
theorem d_X_begin_26 : decode b_X_begin 26 = .ok (.ireturn, 1) := by decide +kernel
theorem d_X_begin_27 : decode b_X_begin 27 = .ok (.iconst 0, 1) := by decide +kernel
theorem d_X_begin_28 : decode b_X_begin 28 = .ok (.istore_n 3, 1) := by decide +kernel
theorem d_X_begin_29 : decode b_X_begin 29 = .ok (.iload_n 3, 1) := by decide +kernel
theorem d_X_begin_30 : decode b_X_begin 30 = .ok (.bipush 6, 2) := by decide +kernel
theorem d_X_begin_32 : decode b_X_begin 32 = .ok (.if_icmp .ge 28, 3) := by decide +kernel
theorem d_X_begin_35 : decode b_X_begin 35 = .ok (.aload_n 0, 1) := by decide +kernel
theorem d_X_begin_36 : decode b_X_begin 36 = .ok (.getfield 12, 3) := by decide +kernel
theorem d_X_begin_39 : decode b_X_begin 39 = .ok (.bipush 6, 2) := by decide +kernel
theorem d_X_begin_41 : decode b_X_begin 41 = .ok (.iload_n 3, 1) := by decide +kernel
theorem d_X_begin_42 : decode b_X_begin 42 = .ok (.iadd, 1) := by decide +kernel
theorem d_X_begin_43 : decode b_X_begin 43 = .ok (.invokevirtual 82, 3) := by decide +kernel
theorem d_X_begin_46 : decode b_X_begin 46 = .ok (.ifCond .ne 8, 3) := by decide +kernel
theorem d_X_begin_49 : decode b_X_begin 49 = .ok (.aload_n 0, 1) := by decide +kernel
theorem d_X_begin_50 : decode b_X_begin 50 = .ok (.invokevirtual 64, 3) := by decide +kernel
theorem d_X_begin_53 : decode b_X_begin 53 = .ok (.ireturn, 1) := by decide +kernel
theorem d_X_begin_54 : decode b_X_begin 54 = .ok (.iinc 3 1, 3) := by decide +kernel
theorem d_X_begin_57 : decode b_X_begin 57 = .ok (.goto (-28), 3) := by decide +kernel
theorem d_X_begin_60 : decode b_X_begin 60 = .ok (.aload_n 0, 1) := by decide +kernel
theorem d_X_begin_61 : decode b_X_begin 61 = .ok (.getfield 28, 3) := by decide +kernel
theorem d_X_begin_64 : decode b_X_begin 64 = .ok (.iload_n 1, 1) := by decide +kernel
theorem d_X_begin_65 : decode b_X_begin 65 = .ok (.iload_n 2, 1) := by decide +kernel
theorem d_X_begin_66 : decode b_X_begin 66 = .ok (.invokevirtual 86, 3) := by decide +kernel
theorem d_X_begin_69 : decode b_X_begin 69 = .ok (.aload_n 0, 1) := by decide +kernel
theorem d_X_begin_70 : decode b_X_begin 70 = .ok (.getfield 28, 3) := by decide +kernel
theorem d_X_begin_73 : decode b_X_begin 73 = .ok (.invokevirtual 90, 3) := by decide +kernel
theorem d_X_begin_76 : decode b_X_begin 76 = .ok (.ireturn, 1) := by decide +kernel
set_option maxHeartbeats 4000000 in
set_option maxRecDepth 100000 in
theorem k_X_losePower (l : Launch) (D : va_G) (cA : ClassId) (aX aF aB aL aP : Nat) (st : St) (sz : Nat) : Cv l y_X_losePower b_X_losePower 1 none 1 D cA (CW cA aX aF aB aL aP) st sz [.ref aX] (fun u => u = closs st) := by
  refine Cv.enter (by decide) (Nat.le_of_ble_eq_true rfl) ?_
  intro pr en s0 m0 ar bl me co A ls hx hb hml hr hlk hown hts hK hN hA hP hD hS hl
  have hl : lv_has ls 1 [(0, .ref aX)] := hl
  have hown : s0.vm.findClass R_X = some m0.cls := hown
  refine lv_aload_n hx hb d_X_losePower_0 rfl (lv_at hl 0 rfl) ?_
  refine lv_iconst (v := 0) hx hb d_X_losePower_1 (by decide) ?_
  refine va_put (D := D) (ci := 0) (v := .int (0 : Int32)) (ty := .boolean) (C := R_X) (T := T_X) (N := 5) hx hb hts in_X ty_X ty_X_ok nm_X hown hK hP hD hS 0 rfl rfl 3 (by decide) (hts _ wm_69) (fun _ h9 => h9) rfl (ty_X_ok 3 (by decide)) rfl rfl (Nat.le_of_ble_eq_true rfl) d_X_losePower_2 (fun H locs hP hD hS => ?_)
  have hP : va_P D vwC (CW cA aX aF aB aL aP ((st.1.1, st.1.2.1, st.1.2.2.1, st.1.2.2.2), (false, st.2.1.2), (st.2.2.1, st.2.2.2.1, st.2.2.2.2.1, st.2.2.2.2.2.1, st.2.2.2.2.2.2.1, st.2.2.2.2.2.2.2))) H := hP
  have hD : va_D A (CW cA aX aF aB aL aP ((st.1.1, st.1.2.1, st.1.2.2.1, st.1.2.2.2), (false, st.2.1.2), (st.2.2.1, st.2.2.2.1, st.2.2.2.2.1, st.2.2.2.2.2.1, st.2.2.2.2.2.2.1, st.2.2.2.2.2.2.2))) := hD
  refine lv_aload_n hx hb d_X_losePower_5 rfl (lv_at hl 0 rfl) ?_
  refine lv_iconst (v := 0) hx hb d_X_losePower_6 (by decide) ?_
  refine va_put (D := D) (ci := 0) (v := .int (0 : Int32)) (ty := .int) (C := R_X) (T := T_X) (N := 5) hx hb hts in_X ty_X ty_X_ok nm_X hown hK hP hD hS 0 rfl rfl 4 (by decide) (hts _ wm_70) (fun _ h9 => h9) rfl (ty_X_ok 4 (by decide)) rfl rfl (Nat.le_of_ble_eq_true rfl) d_X_losePower_7 (fun H locs hP hD hS => ?_)
  have hP : va_P D vwC (CW cA aX aF aB aL aP ((st.1.1, st.1.2.1, st.1.2.2.1, st.1.2.2.2), (false, (0 : Int32)), (st.2.2.1, st.2.2.2.1, st.2.2.2.2.1, st.2.2.2.2.2.1, st.2.2.2.2.2.2.1, st.2.2.2.2.2.2.2))) H := hP
  have hD : va_D A (CW cA aX aF aB aL aP ((st.1.1, st.1.2.1, st.1.2.2.1, st.1.2.2.2), (false, (0 : Int32)), (st.2.2.1, st.2.2.2.1, st.2.2.2.2.1, st.2.2.2.2.2.1, st.2.2.2.2.2.2.1, st.2.2.2.2.2.2.2))) := hD
  refine lv_aload_n hx hb d_X_losePower_10 rfl (lv_at hl 0 rfl) ?_
  refine va_get (D := D) (ci := 0) (v := .ref aP) (C := R_X) (T := T_X) (N := 5) hx hb hts in_X hown hK hP 0 rfl rfl 2 (by decide) (hts _ wm_68) (fun _ h9 => h9) rfl d_X_losePower_11 ?_
  obtain ⟨v14, hv14⟩ : ∃ x : St, x = ((st.1.1, st.1.2.1, st.1.2.2.1, st.1.2.2.2), (false, (0 : Int32)), (st.2.2.1, st.2.2.2.1, st.2.2.2.2.1, st.2.2.2.2.2.1, st.2.2.2.2.2.2.1, st.2.2.2.2.2.2.2)) := ⟨_, rfl⟩
  have hP : va_P D vwC (CW cA aX aF aB aL aP v14) H := by rw [hv14]; exact hP
  have hD : va_D A (CW cA aX aF aB aL aP v14) := by rw [hv14]; exact hD
  refine sw_callVv (rest := []) 4 3 [] hx hb hml hown hts hK hN hA hP hD hS (k_P_end l D cA aX aF aB aL aP v14 _) cw_X_129 rfl rfl rfl ⟨Nat.le_of_ble_eq_true rfl, Nat.le_of_ble_eq_true rfl⟩ hl.1 rfl rfl (Nat.le_of_ble_eq_true rfl) d_X_losePower_14 (fun u14 H locs hq14 hP hD hS => ?_)
  have hu14 : u14 = (v14.1, v14.2.1, v14.2.2.1, v14.2.2.2.1, 0, 0, v14.2.2.2.2.2.2.1, v14.2.2.2.2.2.2.2) := hq14
  refine sw_vret (u := u14) hx hb hr hlk hK hP hD hS d_X_losePower_17 ?_
  show _ = closs st
  rw [hu14, hv14] <;> rfl
set_option maxHeartbeats 4000000 in
set_option maxRecDepth 100000 in
theorem k_X_powerGone (l : Launch) (D : va_G) (cA : ClassId) (aX aF aB aL aP : Nat) (st : St) (sz : Nat) : Ci l y_X_powerGone b_X_powerGone 1 (some .int) 2 D cA (CW cA aX aF aB aL aP) st sz [.ref aX] (fun r u => r = (-2) ∧ u = closs st) := by
  refine Ci.enter (by decide) (Nat.le_of_ble_eq_true rfl) ?_
  intro pr en s0 m0 ar bl me co A ls hx hb hml hr hlk hown hts hK hN hA hP hD hS hl
  have hl : lv_has ls 1 [(0, .ref aX)] := hl
  have hown : s0.vm.findClass R_X = some m0.cls := hown
  refine lv_aload_n hx hb d_X_powerGone_0 rfl (lv_at hl 0 rfl) ?_
  refine sw_callVv (rest := []) 0 0 [] hx hb hml hown hts hK hN hA hP hD hS (k_X_losePower l D cA aX aF aB aL aP st _) cw_X_44 rfl rfl rfl ⟨Nat.le_of_ble_eq_true rfl, Nat.le_of_ble_eq_true rfl⟩ hl.1 rfl rfl (Nat.le_of_ble_eq_true rfl) d_X_powerGone_1 (fun u1 H locs hq1 hP hD hS => ?_)
  have hu1 : u1 = closs st := hq1
  refine lv_bipush (v := -2) hx hb d_X_powerGone_4 (by decide) ?_
  refine sw_iret (u := u1) (v := (-2 : Int32)) hx hb hr hlk hK hP hD hS d_X_powerGone_6 rfl ?_
  exact ⟨rfl, hu1⟩
set_option maxHeartbeats 4000000 in
set_option maxRecDepth 100000 in
theorem k_X_off (l : Launch) (D : va_G) (cA : ClassId) (aX aF aB aL aP : Nat) (st : St) (sz : Nat) : Ci l y_X_off b_X_off 2 (some .boolean) 2 D cA (CW cA aX aF aB aL aP) st sz [.ref aX] (fun r u => r = b2i st.2.1.1 ∧ u = closs st) := by
  refine Ci.enter (by decide) (Nat.le_of_ble_eq_true rfl) ?_
  intro pr en s0 m0 ar bl me co A ls hx hb hml hr hlk hown hts hK hN hA hP hD hS hl
  have hl : lv_has ls 2 [(0, .ref aX)] := hl
  have hown : s0.vm.findClass R_X = some m0.cls := hown
  refine lv_aload_n hx hb d_X_off_0 rfl (lv_at hl 0 rfl) ?_
  refine va_get (D := D) (ci := 0) (v := .int (b2i (st.2.1.1))) (C := R_X) (T := T_X) (N := 5) hx hb hts in_X hown hK hP 0 rfl rfl 3 (by decide) (hts _ wm_69) (fun _ h9 => h9) rfl d_X_off_1 ?_
  refine lv_istore_n hx hb d_X_off_4 rfl hl (by decide) rfl (fun ls hl => ?_)
  have hl : lv_has ls 2 [(1, .int (b2i (st.2.1.1))), (0, .ref aX)] := hl
  refine lv_aload_n hx hb d_X_off_5 rfl (lv_at hl 1 rfl) ?_
  refine sw_callVv (rest := []) 0 0 [] hx hb hml hown hts hK hN hA hP hD hS (k_X_losePower l D cA aX aF aB aL aP st _) cw_X_44 rfl rfl rfl ⟨Nat.le_of_ble_eq_true rfl, Nat.le_of_ble_eq_true rfl⟩ hl.1 rfl rfl (Nat.le_of_ble_eq_true rfl) d_X_off_6 (fun u6 H locs hq6 hP hD hS => ?_)
  have hu6 : u6 = closs st := hq6
  refine lv_iload_n hx hb d_X_off_9 rfl (lv_at hl 0 rfl) ?_
  refine sw_iret (u := u6) (v := b2i (st.2.1.1)) hx hb hr hlk hK hP hD hS d_X_off_10 (nb_b2i _) ?_
  exact ⟨rfl, hu6⟩
set_option maxHeartbeats 4000000 in
set_option maxRecDepth 100000 in
theorem k_X_cut (l : Launch) (D : va_G) (cA : ClassId) (aX aF aB aL aP : Nat) (st : St) (sz : Nat) (k : Int32) : Ci l y_X_cut b_X_cut 2 (some .boolean) 1 D cA (CW cA aX aF aB aL aP) st sz [.ref aX, .int k] (fun r u => r = b2i (ccutok k) ∧ u = ccut k st) := by
  refine Ci.enter (by decide) (Nat.le_of_ble_eq_true rfl) ?_
  intro pr en s0 m0 ar bl me co A ls hx hb hml hr hlk hown hts hK hN hA hP hD hS hl
  have hl : lv_has ls 2 [(0, .ref aX), (1, .int k)] := hl
  have hown : s0.vm.findClass R_X = some m0.cls := hown
  refine lv_iload_n hx hb d_X_cut_0 rfl (lv_at hl 1 rfl) ?_
  refine lv_if_lt (tgt := 11) hx hb d_X_cut_1 (by decide) (fun h1 => ?_) (fun h1 => ?_)
  · skip
    refine lv_iconst (v := 0) hx hb d_X_cut_11 (by decide) ?_
    refine sw_iret (u := st) (v := (0 : Int32)) hx hb hr hlk hK hP hD hS d_X_cut_12 rfl ?_
    have e : ccutok k = false := decide_eq_false (fun q => q.1 h1)
    rw [e, show ccut k st = st from if_neg (by rw [e]; decide)]
    exact ⟨rfl, rfl⟩
  · skip
    refine lv_iload_n hx hb d_X_cut_4 rfl (lv_at hl 1 rfl) ?_
    refine lv_sipush (v := 1000) hx hb d_X_cut_5 (by decide) ?_
    refine lv_icmp_le (tgt := 13) hx hb d_X_cut_8 (by decide) (fun h8 => ?_) (fun h8 => ?_)
    · skip
      refine lv_aload_n hx hb d_X_cut_13 rfl (lv_at hl 0 rfl) ?_
      refine va_get (D := D) (ci := 0) (v := .ref aF) (C := R_X) (T := T_X) (N := 5) hx hb hts in_X hown hK hP 0 rfl rfl 0 (by decide) (hts _ wm_66) (fun _ h9 => h9) rfl d_X_cut_14 ?_
      refine lv_iload_n hx hb d_X_cut_17 rfl (lv_at hl 1 rfl) ?_
      refine sw_callVv (rest := []) 1 1 [.int k] hx hb hml hown hts hK hN hA hP hD hS (k_F_setCut l D cA aX aF aB aL aP st _ k) cw_X_72 rfl rfl rfl ⟨Nat.le_of_ble_eq_true rfl, Nat.le_of_ble_eq_true rfl⟩ hl.1 rfl rfl (Nat.le_of_ble_eq_true rfl) d_X_cut_18 (fun u18 H locs hq18 hP hD hS => ?_)
      have hu18 : u18 = ((st.1.1, k, st.1.2.2.1, st.1.2.2.2), st.2) := hq18
      refine lv_iconst (v := 1) hx hb d_X_cut_21 (by decide) ?_
      refine sw_iret (u := u18) (v := (1 : Int32)) hx hb hr hlk hK hP hD hS d_X_cut_22 rfl ?_
      have e : ccutok k = true := decide_eq_true ⟨h1, i32_nlt h8⟩
      rw [e, show ccut k st = _ from if_pos e]
      exact ⟨rfl, hu18⟩
    · skip
      refine lv_iconst (v := 0) hx hb d_X_cut_11 (by decide) ?_
      refine sw_iret (u := st) (v := (0 : Int32)) hx hb hr hlk hK hP hD hS d_X_cut_12 rfl ?_
      have e : ccutok k = false := decide_eq_false (fun q => q.2 (i32_lt h8))
      rw [e, show ccut k st = st from if_neg (by rw [e]; decide)]
      exact ⟨rfl, rfl⟩
set_option maxHeartbeats 4000000 in
set_option maxRecDepth 100000 in
theorem k_X_safe (l : Launch) (D : va_G) (cA : ClassId) (aX aF aB aL aP : Nat) (st : St) (sz : Nat) : Ci l y_X_safe b_X_safe 2 (some .int) 1 D cA (CW cA aX aF aB aL aP) st sz [.ref aX] (fun r u => r = st.1.2.1 ∧ u = ((st.1.1, -1, st.1.2.2.1, st.1.2.2.2), st.2)) := by
  refine Ci.enter (by decide) (Nat.le_of_ble_eq_true rfl) ?_
  intro pr en s0 m0 ar bl me co A ls hx hb hml hr hlk hown hts hK hN hA hP hD hS hl
  have hl : lv_has ls 2 [(0, .ref aX)] := hl
  have hown : s0.vm.findClass R_X = some m0.cls := hown
  refine lv_aload_n hx hb d_X_safe_0 rfl (lv_at hl 0 rfl) ?_
  refine va_get (D := D) (ci := 0) (v := .ref aF) (C := R_X) (T := T_X) (N := 5) hx hb hts in_X hown hK hP 0 rfl rfl 0 (by decide) (hts _ wm_66) (fun _ h9 => h9) rfl d_X_safe_1 ?_
  refine sw_callVi (rest := []) 1 1 [] hx hb hml hown hts hK hN hA hP hD hS (k_F_cutLeft l D cA aX aF aB aL aP st _) cw_X_76 rfl rfl rfl ⟨Nat.le_of_ble_eq_true rfl, Nat.le_of_ble_eq_true rfl⟩ hl.1 rfl rfl (Nat.le_of_ble_eq_true rfl) d_X_safe_4 (fun r4 u4 H locs hq4 hP hD hS => ?_)
  obtain ⟨hr4, hq4⟩ := hq4
  rw [hr4]
  rw [hq4] at hP hD
  refine lv_istore_n hx hb d_X_safe_7 rfl hl (by decide) rfl (fun ls hl => ?_)
  have hl : lv_has ls 2 [(1, .int st.1.2.1), (0, .ref aX)] := hl
  refine lv_aload_n hx hb d_X_safe_8 rfl (lv_at hl 1 rfl) ?_
  refine va_get (D := D) (ci := 0) (v := .ref aF) (C := R_X) (T := T_X) (N := 5) hx hb hts in_X hown hK hP 0 rfl rfl 0 (by decide) (hts _ wm_66) (fun _ h9 => h9) rfl d_X_safe_9 ?_
  refine sw_callVv (rest := []) 1 1 [] hx hb hml hown hts hK hN hA hP hD hS (k_F_clearCut l D cA aX aF aB aL aP st _) cw_X_47 rfl rfl rfl ⟨Nat.le_of_ble_eq_true rfl, Nat.le_of_ble_eq_true rfl⟩ hl.1 rfl rfl (Nat.le_of_ble_eq_true rfl) d_X_safe_12 (fun u12 H locs hq12 hP hD hS => ?_)
  have hu12 : u12 = ((st.1.1, -1, st.1.2.2.1, st.1.2.2.2), st.2) := hq12
  refine lv_iload_n hx hb d_X_safe_15 rfl (lv_at hl 0 rfl) ?_
  refine sw_iret (u := u12) (v := st.1.2.1) hx hb hr hlk hK hP hD hS d_X_safe_16 rfl ?_
  exact ⟨rfl, hu12⟩
set_option maxHeartbeats 4000000 in
set_option maxRecDepth 100000 in
theorem k_X_boot (l : Launch) (D : va_G) (cA : ClassId) (aX aF aB aL aP : Nat) (st : St) (sz : Nat) : Ci l y_X_boot b_X_boot 1 (some .int) 7 D cA (CW cA aX aF aB aL aP) st sz [.ref aX] (fun r u => r = (cboot st).1 ∧ u = (cboot st).2) := by
  refine Ci.enter (by decide) (Nat.le_of_ble_eq_true rfl) ?_
  intro pr en s0 m0 ar bl me co A ls hx hb hml hr hlk hown hts hK hN hA hP hD hS hl
  have hl : lv_has ls 1 [(0, .ref aX)] := hl
  have hown : s0.vm.findClass R_X = some m0.cls := hown
  refine lv_aload_n hx hb d_X_boot_0 rfl (lv_at hl 0 rfl) ?_
  refine sw_callVv (rest := []) 0 0 [] hx hb hml hown hts hK hN hA hP hD hS (k_X_losePower l D cA aX aF aB aL aP st _) cw_X_44 rfl rfl rfl ⟨Nat.le_of_ble_eq_true rfl, Nat.le_of_ble_eq_true rfl⟩ hl.1 rfl rfl (Nat.le_of_ble_eq_true rfl) d_X_boot_1 (fun u1 H locs hq1 hP hD hS => ?_)
  have hu1 : u1 = closs st := hq1
  refine lv_aload_n hx hb d_X_boot_4 rfl (lv_at hl 0 rfl) ?_
  refine lv_iconst (v := 1) hx hb d_X_boot_5 (by decide) ?_
  refine va_put (D := D) (ci := 0) (v := .int (1 : Int32)) (ty := .boolean) (C := R_X) (T := T_X) (N := 5) hx hb hts in_X ty_X ty_X_ok nm_X hown hK hP hD hS 0 rfl rfl 3 (by decide) (hts _ wm_69) (fun _ h9 => h9) rfl (ty_X_ok 3 (by decide)) rfl rfl (Nat.le_of_ble_eq_true rfl) d_X_boot_6 (fun H locs hP hD hS => ?_)
  have hP : va_P D vwC (CW cA aX aF aB aL aP ((u1.1.1, u1.1.2.1, u1.1.2.2.1, u1.1.2.2.2), (true, u1.2.1.2), (u1.2.2.1, u1.2.2.2.1, u1.2.2.2.2.1, u1.2.2.2.2.2.1, u1.2.2.2.2.2.2.1, u1.2.2.2.2.2.2.2))) H := hP
  have hD : va_D A (CW cA aX aF aB aL aP ((u1.1.1, u1.1.2.1, u1.1.2.2.1, u1.1.2.2.2), (true, u1.2.1.2), (u1.2.2.1, u1.2.2.2.1, u1.2.2.2.2.1, u1.2.2.2.2.2.1, u1.2.2.2.2.2.2.1, u1.2.2.2.2.2.2.2))) := hD
  refine lv_aload_n hx hb d_X_boot_9 rfl (lv_at hl 0 rfl) ?_
  refine va_get (D := D) (ci := 0) (v := .ref aL) (C := R_X) (T := T_X) (N := 5) hx hb hts in_X hown hK hP 0 rfl rfl 1 (by decide) (hts _ wm_67) (fun _ h9 => h9) rfl d_X_boot_10 ?_
  obtain ⟨v13, hv13⟩ : ∃ x : St, x = ((u1.1.1, u1.1.2.1, u1.1.2.2.1, u1.1.2.2.2), (true, u1.2.1.2), (u1.2.2.1, u1.2.2.2.1, u1.2.2.2.2.1, u1.2.2.2.2.2.1, u1.2.2.2.2.2.2.1, u1.2.2.2.2.2.2.2)) := ⟨_, rfl⟩
  have hP : va_P D vwC (CW cA aX aF aB aL aP v13) H := by rw [hv13]; exact hP
  have hD : va_D A (CW cA aX aF aB aL aP v13) := by rw [hv13]; exact hD
  refine sw_callVi (rest := []) 3 2 [] hx hb hml hown hts hK hN hA hP hD hS (k_L_followLogs l D cA aX aF aB aL aP v13 _) cw_X_57 rfl rfl rfl ⟨Nat.le_of_ble_eq_true rfl, Nat.le_of_ble_eq_true rfl⟩ hl.1 rfl rfl (Nat.le_of_ble_eq_true rfl) d_X_boot_13 (fun r13 u13 H locs hq13 hP hD hS => ?_)
  obtain ⟨hr13, hu13⟩ := hq13
  rw [hr13]
  refine sw_bz_eq (tgt := 29) hx hb d_X_boot_16 (by decide) (fun h16 => ?_) (fun h16 => ?_)
  · skip
    refine lv_aload_n hx hb d_X_boot_29 rfl (lv_at hl 0 rfl) ?_
    refine sw_callVi (rest := []) 0 0 [] hx hb hml hown hts hK hN hA hP hD hS (k_X_powerGone l D cA aX aF aB aL aP u13 _) cw_X_64 rfl rfl rfl ⟨Nat.le_of_ble_eq_true rfl, Nat.le_of_ble_eq_true rfl⟩ hl.1 rfl rfl (Nat.le_of_ble_eq_true rfl) d_X_boot_30 (fun r30 u30 H locs hq30 hP hD hS => ?_)
    obtain ⟨hr30, hu30⟩ := hq30
    rw [hr30]
    refine sw_iret (u := u30) (v := ((-2))) hx hb hr hlk hK hP hD hS d_X_boot_33 rfl ?_
    have hw := mz_no h16
    have e1 : (v13.1, false) = (st.1, false) := by rw [hv13, hu1]; rfl
    rw [e1] at hw hu13
    have hm : cmark (cfollow (st.1, false)) = cfollow (st.1, false) := cmark_went hw
    rw [show cboot st = (-2, cgone (cmark (cfollow (st.1, false))) st) from if_pos (by rw [hm]; exact hw), hm]
    exact ⟨rfl, by rw [hu30, hu13, hv13, hu1] <;> rfl⟩
  · skip
    refine lv_aload_n hx hb d_X_boot_19 rfl (lv_at hl 0 rfl) ?_
    refine va_get (D := D) (ci := 0) (v := .ref aL) (C := R_X) (T := T_X) (N := 5) hx hb hts in_X hown hK hP 0 rfl rfl 1 (by decide) (hts _ wm_67) (fun _ h9 => h9) rfl d_X_boot_20 ?_
    refine sw_callVi (rest := []) 3 2 [] hx hb hml hown hts hK hN hA hP hD hS (k_L_markStarted l D cA aX aF aB aL aP u13 _) cw_X_61 rfl rfl rfl ⟨Nat.le_of_ble_eq_true rfl, Nat.le_of_ble_eq_true rfl⟩ hl.1 rfl rfl (Nat.le_of_ble_eq_true rfl) d_X_boot_23 (fun r23 u23 H locs hq23 hP hD hS => ?_)
    obtain ⟨hr23, hu23⟩ := hq23
    rw [hr23]
    refine sw_bz_ne (tgt := 34) hx hb d_X_boot_26 (by decide) (fun h26 => ?_) (fun h26 => ?_)
    · skip
      refine lv_aload_n hx hb d_X_boot_34 rfl (lv_at hl 0 rfl) ?_
      refine lv_aload_n hx hb d_X_boot_35 rfl (lv_at hl 0 rfl) ?_
      refine va_get (D := D) (ci := 0) (v := .ref aF) (C := R_X) (T := T_X) (N := 5) hx hb hts in_X hown hK hP 0 rfl rfl 0 (by decide) (hts _ wm_66) (fun _ h9 => h9) rfl d_X_boot_36 ?_
      refine lv_iconst (v := 0) hx hb d_X_boot_39 (by decide) ?_
      refine sw_callVi (rest := [.ref aX]) 1 1 [.int (nI 0)] hx hb hml hown hts hK hN hA hP hD hS (k_F_validVersion l D cA aX aF aB aL aP u23 _ 0 (by omega)) cw_X_68 rfl rfl rfl ⟨Nat.le_of_ble_eq_true rfl, Nat.le_of_ble_eq_true rfl⟩ hl.1 rfl rfl (Nat.le_of_ble_eq_true rfl) d_X_boot_40 (fun r40 u40 H locs hq40 hP hD hS => ?_)
      obtain ⟨hr40, hq40⟩ := hq40
      rw [hr40]
      rw [hq40] at hP hD
      refine va_put (D := D) (ci := 0) (v := .int (pimg u23.1.1 0)) (ty := .int) (C := R_X) (T := T_X) (N := 5) hx hb hts in_X ty_X ty_X_ok nm_X hown hK hP hD hS 0 rfl rfl 4 (by decide) (hts _ wm_70) (fun _ h9 => h9) rfl (ty_X_ok 4 (by decide)) rfl rfl (Nat.le_of_ble_eq_true rfl) d_X_boot_43 (fun H locs hP hD hS => ?_)
      have hP : va_P D vwC (CW cA aX aF aB aL aP ((u23.1.1, u23.1.2.1, u23.1.2.2.1, u23.1.2.2.2), (u23.2.1.1, (pimg u23.1.1 0)), (u23.2.2.1, u23.2.2.2.1, u23.2.2.2.2.1, u23.2.2.2.2.2.1, u23.2.2.2.2.2.2.1, u23.2.2.2.2.2.2.2))) H := hP
      have hD : va_D A (CW cA aX aF aB aL aP ((u23.1.1, u23.1.2.1, u23.1.2.2.1, u23.1.2.2.2), (u23.2.1.1, (pimg u23.1.1 0)), (u23.2.2.1, u23.2.2.2.1, u23.2.2.2.2.1, u23.2.2.2.2.2.1, u23.2.2.2.2.2.2.1, u23.2.2.2.2.2.2.2))) := hD
      refine lv_aload_n hx hb d_X_boot_46 rfl (lv_at hl 0 rfl) ?_
      refine va_get (D := D) (ci := 0) (v := .int ((pimg u23.1.1 0))) (C := R_X) (T := T_X) (N := 5) hx hb hts in_X hown hK hP 0 rfl rfl 4 (by decide) (hts _ wm_70) (fun _ h9 => h9) rfl d_X_boot_47 ?_
      refine sw_iret (u := ((u23.1.1, u23.1.2.1, u23.1.2.2.1, u23.1.2.2.2), (u23.2.1.1, (pimg u23.1.1 0)), (u23.2.2.1, u23.2.2.2.1, u23.2.2.2.2.1, u23.2.2.2.2.2.1, u23.2.2.2.2.2.2.1, u23.2.2.2.2.2.2.2))) (v := ((pimg u23.1.1 0))) hx hb hr hlk hK hP hD hS d_X_boot_50 rfl ?_
      have e13 : (u13.1, false) = cfollow (st.1, false) := by rw [show st.1 = v13.1 by rw [hv13, hu1]; rfl, hu13]; exact mz_eq (mz_ok h16)
      have hw := mz_ok h26
      rw [e13] at hw hu23
      have hf : u23.1 = (cmark (cfollow (st.1, false))).1 := by rw [hu23]
      rw [show cboot st = _ from if_neg (by rw [hw]; decide), hf]
      exact ⟨rfl, by rw [hu23, hu13, hv13, hu1] <;> rfl⟩
    · skip
      refine lv_aload_n hx hb d_X_boot_29 rfl (lv_at hl 0 rfl) ?_
      refine sw_callVi (rest := []) 0 0 [] hx hb hml hown hts hK hN hA hP hD hS (k_X_powerGone l D cA aX aF aB aL aP u23 _) cw_X_64 rfl rfl rfl ⟨Nat.le_of_ble_eq_true rfl, Nat.le_of_ble_eq_true rfl⟩ hl.1 rfl rfl (Nat.le_of_ble_eq_true rfl) d_X_boot_30 (fun r30 u30 H locs hq30 hP hD hS => ?_)
      obtain ⟨hr30, hu30⟩ := hq30
      rw [hr30]
      refine sw_iret (u := u30) (v := ((-2))) hx hb hr hlk hK hP hD hS d_X_boot_33 rfl ?_
      have e13 : (u13.1, false) = cfollow (st.1, false) := by rw [show st.1 = v13.1 by rw [hv13, hu1]; rfl, hu13]; exact mz_eq (mz_ok h16)
      have hw := mz_no h26
      rw [e13] at hw hu23
      rw [show cboot st = (-2, cgone (cmark (cfollow (st.1, false))) st) from if_pos hw]
      exact ⟨rfl, by rw [hu30, hu23, hu13, hv13, hu1] <;> rfl⟩
set_option maxHeartbeats 4000000 in
set_option maxRecDepth 100000 in
theorem k_X_request (l : Launch) (D : va_G) (cA : ClassId) (aX aF aB aL aP : Nat) (st : St) (sz : Nat) : Ci l y_X_request b_X_request 1 (some .int) 4 D cA (CW cA aX aF aB aL aP) st sz [.ref aX] (fun r u => r = (creq st).1 ∧ u = (creq st).2) := by
  refine Ci.enter (by decide) (Nat.le_of_ble_eq_true rfl) ?_
  intro pr en s0 m0 ar bl me co A ls hx hb hml hr hlk hown hts hK hN hA hP hD hS hl
  have hl : lv_has ls 1 [(0, .ref aX)] := hl
  have hown : s0.vm.findClass R_X = some m0.cls := hown
  refine lv_aload_n hx hb d_X_request_0 rfl (lv_at hl 0 rfl) ?_
  refine va_get (D := D) (ci := 0) (v := .int st.2.1.2) (C := R_X) (T := T_X) (N := 5) hx hb hts in_X hown hK hP 0 rfl rfl 4 (by decide) (hts _ wm_70) (fun _ h9 => h9) rfl d_X_request_1 ?_
  refine lv_if_eq (tgt := 17) hx hb d_X_request_4 (by decide) (fun h4 => ?_) (fun h4 => ?_)
  · skip
    refine lv_iconst (v := -1) hx hb d_X_request_17 (by decide) ?_
    refine sw_iret (u := st) (v := (-1 : Int32)) hx hb hr hlk hK hP hD hS d_X_request_18 rfl ?_
    rw [show creq st = _ from if_pos (Or.inl h4)]
    exact ⟨rfl, rfl⟩
  · skip
    refine lv_aload_n hx hb d_X_request_7 rfl (lv_at hl 0 rfl) ?_
    refine va_get (D := D) (ci := 0) (v := .ref aL) (C := R_X) (T := T_X) (N := 5) hx hb hts in_X hown hK hP 0 rfl rfl 1 (by decide) (hts _ wm_67) (fun _ h9 => h9) rfl d_X_request_8 ?_
    refine sw_callVi (rest := []) 3 2 [] hx hb hml hown hts hK hN hA hP hD hS (k_L_isBusy l D cA aX aF aB aL aP st _) cw_X_79 rfl rfl rfl ⟨Nat.le_of_ble_eq_true rfl, Nat.le_of_ble_eq_true rfl⟩ hl.1 rfl rfl (Nat.le_of_ble_eq_true rfl) d_X_request_11 (fun r11 u11 H locs hq11 hP hD hS => ?_)
    obtain ⟨hr11, hq11⟩ := hq11
    rw [hr11]
    rw [hq11] at hP hD
    refine sw_bz_eq (tgt := 19) hx hb d_X_request_14 (by decide) (fun h14 => ?_) (fun h14 => ?_)
    · skip
      refine lv_aload_n hx hb d_X_request_19 rfl (lv_at hl 0 rfl) ?_
      refine va_get (D := D) (ci := 0) (v := .ref aF) (C := R_X) (T := T_X) (N := 5) hx hb hts in_X hown hK hP 0 rfl rfl 0 (by decide) (hts _ wm_66) (fun _ h9 => h9) rfl d_X_request_20 ?_
      refine lv_bipush (v := 96) hx hb d_X_request_23 (by decide) ?_
      refine sw_callVi (rest := []) 1 1 [.int (nI 96)] hx hb hml hown hts hK hN hA hP hD hS (k_F_validVersion l D cA aX aF aB aL aP st _ 96 (by omega)) cw_X_68 rfl rfl rfl ⟨Nat.le_of_ble_eq_true rfl, Nat.le_of_ble_eq_true rfl⟩ hl.1 rfl rfl (Nat.le_of_ble_eq_true rfl) d_X_request_25 (fun r25 u25 H locs hq25 hP hD hS => ?_)
      obtain ⟨hr25, hq25⟩ := hq25
      rw [hr25]
      rw [hq25] at hP hD
      refine lv_if_ne (tgt := 33) hx hb d_X_request_28 (by decide) (fun h28 => ?_) (fun h28 => ?_)
      · skip
        refine lv_aload_n hx hb d_X_request_33 rfl (lv_at hl 0 rfl) ?_
        refine va_get (D := D) (ci := 0) (v := .ref aL) (C := R_X) (T := T_X) (N := 5) hx hb hts in_X hown hK hP 0 rfl rfl 1 (by decide) (hts _ wm_67) (fun _ h9 => h9) rfl d_X_request_34 ?_
        refine sw_callVi (rest := []) 3 2 [] hx hb hml hown hts hK hN hA hP hD hS (k_L_askForChange l D cA aX aF aB aL aP st _) cw_X_102 rfl rfl rfl ⟨Nat.le_of_ble_eq_true rfl, Nat.le_of_ble_eq_true rfl⟩ hl.1 rfl rfl (Nat.le_of_ble_eq_true rfl) d_X_request_37 (fun r37 u37 H locs hq37 hP hD hS => ?_)
        obtain ⟨hr37, hu37⟩ := hq37
        rw [hr37]
        refine sw_bz_eq (tgt := 47) hx hb d_X_request_40 (by decide) (fun h40 => ?_) (fun h40 => ?_)
        · skip
          refine lv_aload_n hx hb d_X_request_47 rfl (lv_at hl 0 rfl) ?_
          refine sw_callVi (rest := []) 0 0 [] hx hb hml hown hts hK hN hA hP hD hS (k_X_powerGone l D cA aX aF aB aL aP u37 _) cw_X_64 rfl rfl rfl ⟨Nat.le_of_ble_eq_true rfl, Nat.le_of_ble_eq_true rfl⟩ hl.1 rfl rfl (Nat.le_of_ble_eq_true rfl) d_X_request_48 (fun r48 u48 H locs hq48 hP hD hS => ?_)
          obtain ⟨hr48, hu48⟩ := hq48
          rw [hr48]
          refine sw_iret (u := u48) (v := ((-2))) hx hb hr hlk hK hP hD hS d_X_request_51 rfl ?_
          rw [show creq st = _ from (if_neg (fun q => q.elim h4 (fun q => by rw [h14] at q; cases q))).trans ((if_neg h28).trans (if_pos (mz_no h40)))]
          exact ⟨rfl, by rw [hu48, hu37] <;> rfl⟩
        · skip
          refine lv_iconst (v := 1) hx hb d_X_request_43 (by decide) ?_
          refine lv_goto (tgt := 51) hx hb d_X_request_44 (by decide) ?_
          refine sw_iret (u := u37) (v := (1 : Int32)) hx hb hr hlk hK hP hD hS d_X_request_51 rfl ?_
          rw [show creq st = _ from (if_neg (fun q => q.elim h4 (fun q => by rw [h14] at q; cases q))).trans ((if_neg h28).trans (if_neg (by rw [mz_ok h40]; decide)))]
          exact ⟨rfl, hu37⟩
      · skip
        refine lv_iconst (v := 0) hx hb d_X_request_31 (by decide) ?_
        refine sw_iret (u := st) (v := (0 : Int32)) hx hb hr hlk hK hP hD hS d_X_request_32 rfl ?_
        rw [show creq st = _ from (if_neg (fun q => q.elim h4 (fun q => by rw [h14] at q; cases q))).trans (if_pos h28)]
        exact ⟨rfl, rfl⟩
    · skip
      refine lv_iconst (v := -1) hx hb d_X_request_17 (by decide) ?_
      refine sw_iret (u := st) (v := (-1 : Int32)) hx hb hr hlk hK hP hD hS d_X_request_18 rfl ?_
      rw [show creq st = _ from if_pos (Or.inr h14)]
      exact ⟨rfl, rfl⟩
set_option maxHeartbeats 4000000 in
set_option maxRecDepth 100000 in
theorem k_X_confirm (l : Launch) (D : va_G) (cA : ClassId) (aX aF aB aL aP : Nat) (st : St) (sz : Nat) : Ci l y_X_confirm b_X_confirm 1 (some .int) 4 D cA (CW cA aX aF aB aL aP) st sz [.ref aX] (fun r u => r = (ccon st).1 ∧ u = (ccon st).2) := by
  refine Ci.enter (by decide) (Nat.le_of_ble_eq_true rfl) ?_
  intro pr en s0 m0 ar bl me co A ls hx hb hml hr hlk hown hts hK hN hA hP hD hS hl
  have hl : lv_has ls 1 [(0, .ref aX)] := hl
  have hown : s0.vm.findClass R_X = some m0.cls := hown
  refine lv_aload_n hx hb d_X_confirm_0 rfl (lv_at hl 0 rfl) ?_
  refine va_get (D := D) (ci := 0) (v := .int st.2.1.2) (C := R_X) (T := T_X) (N := 5) hx hb hts in_X hown hK hP 0 rfl rfl 4 (by decide) (hts _ wm_70) (fun _ h9 => h9) rfl d_X_confirm_1 ?_
  refine lv_if_eq (tgt := 17) hx hb d_X_confirm_4 (by decide) (fun h4 => ?_) (fun h4 => ?_)
  · skip
    refine lv_iconst (v := -1) hx hb d_X_confirm_17 (by decide) ?_
    refine sw_iret (u := st) (v := (-1 : Int32)) hx hb hr hlk hK hP hD hS d_X_confirm_18 rfl ?_
    rw [show ccon st = _ from if_pos (Or.inl h4)]
    exact ⟨rfl, rfl⟩
  · skip
    refine lv_aload_n hx hb d_X_confirm_7 rfl (lv_at hl 0 rfl) ?_
    refine va_get (D := D) (ci := 0) (v := .ref aL) (C := R_X) (T := T_X) (N := 5) hx hb hts in_X hown hK hP 0 rfl rfl 1 (by decide) (hts _ wm_67) (fun _ h9 => h9) rfl d_X_confirm_8 ?_
    refine sw_callVi (rest := []) 3 2 [] hx hb hml hown hts hK hN hA hP hD hS (k_L_awaitsConfirmation l D cA aX aF aB aL aP st _) cw_X_105 rfl rfl rfl ⟨Nat.le_of_ble_eq_true rfl, Nat.le_of_ble_eq_true rfl⟩ hl.1 rfl rfl (Nat.le_of_ble_eq_true rfl) d_X_confirm_11 (fun r11 u11 H locs hq11 hP hD hS => ?_)
    obtain ⟨hr11, hq11⟩ := hq11
    rw [hr11]
    rw [hq11] at hP hD
    refine sw_bz_ne (tgt := 19) hx hb d_X_confirm_14 (by decide) (fun h14 => ?_) (fun h14 => ?_)
    · skip
      refine lv_aload_n hx hb d_X_confirm_19 rfl (lv_at hl 0 rfl) ?_
      refine va_get (D := D) (ci := 0) (v := .ref aL) (C := R_X) (T := T_X) (N := 5) hx hb hts in_X hown hK hP 0 rfl rfl 1 (by decide) (hts _ wm_67) (fun _ h9 => h9) rfl d_X_confirm_20 ?_
      refine sw_callVi (rest := []) 3 2 [] hx hb hml hown hts hK hN hA hP hD hS (k_L_markConfirmed l D cA aX aF aB aL aP st _) cw_X_108 rfl rfl rfl ⟨Nat.le_of_ble_eq_true rfl, Nat.le_of_ble_eq_true rfl⟩ hl.1 rfl rfl (Nat.le_of_ble_eq_true rfl) d_X_confirm_23 (fun r23 u23 H locs hq23 hP hD hS => ?_)
      obtain ⟨hr23, hu23⟩ := hq23
      rw [hr23]
      refine sw_bz_eq (tgt := 33) hx hb d_X_confirm_26 (by decide) (fun h26 => ?_) (fun h26 => ?_)
      · skip
        refine lv_aload_n hx hb d_X_confirm_33 rfl (lv_at hl 0 rfl) ?_
        refine sw_callVi (rest := []) 0 0 [] hx hb hml hown hts hK hN hA hP hD hS (k_X_powerGone l D cA aX aF aB aL aP u23 _) cw_X_64 rfl rfl rfl ⟨Nat.le_of_ble_eq_true rfl, Nat.le_of_ble_eq_true rfl⟩ hl.1 rfl rfl (Nat.le_of_ble_eq_true rfl) d_X_confirm_34 (fun r34 u34 H locs hq34 hP hD hS => ?_)
        obtain ⟨hr34, hu34⟩ := hq34
        rw [hr34]
        refine sw_iret (u := u34) (v := ((-2))) hx hb hr hlk hK hP hD hS d_X_confirm_37 rfl ?_
        rw [show ccon st = _ from (if_neg (fun q => q.elim h4 (fun q => by rw [h14] at q; cases q))).trans (if_pos (mz_no h26))]
        exact ⟨rfl, by rw [hu34, hu23] <;> rfl⟩
      · skip
        refine lv_iconst (v := 1) hx hb d_X_confirm_29 (by decide) ?_
        refine lv_goto (tgt := 37) hx hb d_X_confirm_30 (by decide) ?_
        refine sw_iret (u := u23) (v := (1 : Int32)) hx hb hr hlk hK hP hD hS d_X_confirm_37 rfl ?_
        rw [show ccon st = _ from (if_neg (fun q => q.elim h4 (fun q => by rw [h14] at q; cases q))).trans (if_neg (by rw [mz_ok h26]; decide))]
        exact ⟨rfl, hu23⟩
    · skip
      refine lv_iconst (v := -1) hx hb d_X_confirm_17 (by decide) ?_
      refine sw_iret (u := st) (v := (-1 : Int32)) hx hb hr hlk hK hP hD hS d_X_confirm_18 rfl ?_
      rw [show ccon st = _ from if_pos (Or.inr h14)]
      exact ⟨rfl, rfl⟩
set_option maxHeartbeats 4000000 in
set_option maxRecDepth 100000 in
theorem k_X_version (l : Launch) (D : va_G) (cA : ClassId) (aX aF aB aL aP : Nat) (st : St) (sz : Nat) (w : Int32) : Ci l y_X_version b_X_version 2 (some .int) 2 D cA (CW cA aX aF aB aL aP) st sz [.ref aX, .int w] (fun r u => r = cver w st ∧ u = st) := by
  refine Ci.enter (by decide) (Nat.le_of_ble_eq_true rfl) ?_
  intro pr en s0 m0 ar bl me co A ls hx hb hml hr hlk hown hts hK hN hA hP hD hS hl
  have hl : lv_has ls 2 [(0, .ref aX), (1, .int w)] := hl
  have hown : s0.vm.findClass R_X = some m0.cls := hown
  refine lv_iload_n hx hb d_X_version_0 rfl (lv_at hl 1 rfl) ?_
  rcases v2_split w with h0 | h0 | h0
  · skip
    refine sw_tp (y := 0) h0 ?_
    refine lv_lookup (tgt := 28) (off := 27) hx hb d_X_version_1 (by decide) (by decide) (by decide) ?_
    refine lv_aload_n hx hb d_X_version_28 rfl (lv_at hl 0 rfl) ?_
    refine va_get (D := D) (ci := 0) (v := .ref aF) (C := R_X) (T := T_X) (N := 5) hx hb hts in_X hown hK hP 0 rfl rfl 0 (by decide) (hts _ wm_66) (fun _ h9 => h9) rfl d_X_version_29 ?_
    refine lv_iconst (v := 0) hx hb d_X_version_32 (by decide) ?_
    refine sw_callVi (rest := []) 1 1 [.int (nI 0)] hx hb hml hown hts hK hN hA hP hD hS (k_F_validVersion l D cA aX aF aB aL aP st _ 0 (by omega)) cw_X_68 rfl rfl rfl ⟨Nat.le_of_ble_eq_true rfl, Nat.le_of_ble_eq_true rfl⟩ hl.1 rfl rfl (Nat.le_of_ble_eq_true rfl) d_X_version_33 (fun r33 u33 H locs hq33 hP hD hS => ?_)
    obtain ⟨hr33, hq33⟩ := hq33
    rw [hr33]
    rw [hq33] at hP hD
    refine sw_iret (u := st) (v := (pimg st.1.1 0)) hx hb hr hlk hK hP hD hS d_X_version_36 rfl ?_
    exact ⟨(show cver w st = _ from if_pos h0).symm, rfl⟩
  · skip
    refine sw_tp (y := 1) h0 ?_
    refine lv_lookup (tgt := 37) (off := 36) hx hb d_X_version_1 (by decide) (by decide) (by decide) ?_
    refine lv_aload_n hx hb d_X_version_37 rfl (lv_at hl 0 rfl) ?_
    refine va_get (D := D) (ci := 0) (v := .ref aF) (C := R_X) (T := T_X) (N := 5) hx hb hts in_X hown hK hP 0 rfl rfl 0 (by decide) (hts _ wm_66) (fun _ h9 => h9) rfl d_X_version_38 ?_
    refine lv_bipush (v := 96) hx hb d_X_version_41 (by decide) ?_
    refine sw_callVi (rest := []) 1 1 [.int (nI 96)] hx hb hml hown hts hK hN hA hP hD hS (k_F_validVersion l D cA aX aF aB aL aP st _ 96 (by omega)) cw_X_68 rfl rfl rfl ⟨Nat.le_of_ble_eq_true rfl, Nat.le_of_ble_eq_true rfl⟩ hl.1 rfl rfl (Nat.le_of_ble_eq_true rfl) d_X_version_43 (fun r43 u43 H locs hq43 hP hD hS => ?_)
    obtain ⟨hr43, hq43⟩ := hq43
    rw [hr43]
    rw [hq43] at hP hD
    refine sw_iret (u := st) (v := (pimg st.1.1 96)) hx hb hr hlk hK hP hD hS d_X_version_46 rfl ?_
    exact ⟨(show cver w st = _ from (if_neg (by rw [h0]; decide)).trans (if_pos h0)).symm, rfl⟩
  · skip
    refine lv_lookup (tgt := 47) (off := 46) hx hb d_X_version_1 (by decide) (by exact (lv_osw h0.1 rfl).trans ((lv_osw h0.2 rfl).trans rfl)) (by decide) ?_
    refine lv_iconst (v := -1) hx hb d_X_version_47 (by decide) ?_
    refine sw_iret (u := st) (v := (-1 : Int32)) hx hb hr hlk hK hP hD hS d_X_version_48 rfl ?_
    exact ⟨(show cver w st = _ from (if_neg h0.1).trans (if_neg h0.2)).symm, rfl⟩
set_option maxHeartbeats 4000000 in
set_option maxRecDepth 100000 in
theorem k_X_state (l : Launch) (D : va_G) (cA : ClassId) (aX aF aB aL aP : Nat) (st : St) (sz : Nat) (w : Int32) : Ci l y_X_state b_X_state 2 (some .int) 4 D cA (CW cA aX aF aB aL aP) st sz [.ref aX, .int w] (fun r u => r = cstate w st ∧ u = st) := by
  refine Ci.enter (by decide) (Nat.le_of_ble_eq_true rfl) ?_
  intro pr en s0 m0 ar bl me co A ls hx hb hml hr hlk hown hts hK hN hA hP hD hS hl
  have hl : lv_has ls 2 [(0, .ref aX), (1, .int w)] := hl
  have hown : s0.vm.findClass R_X = some m0.cls := hown
  refine lv_iload_n hx hb d_X_state_0 rfl (lv_at hl 1 rfl) ?_
  rcases s8_split w with h0 | h0 | h0 | h0 | h0 | h0 | h0 | h0 | h0
  · skip
    refine sw_tp (y := 0) h0 ?_
    refine lv_tableIn (tgt := 48) (off := 47) hx hb d_X_state_1 (by decide) (by decide) (by decide) (by decide) ?_
    refine lv_aload_n hx hb d_X_state_48 rfl (lv_at hl 0 rfl) ?_
    refine va_get (D := D) (ci := 0) (v := .int (b2i (st.2.1.1))) (C := R_X) (T := T_X) (N := 5) hx hb hts in_X hown hK hP 0 rfl rfl 3 (by decide) (hts _ wm_69) (fun _ h9 => h9) rfl d_X_state_49 ?_
    refine sw_bz_eq (tgt := 59) hx hb d_X_state_52 (by decide) (fun h52 => ?_) (fun h52 => ?_)
    · skip
      refine lv_iconst (v := 0) hx hb d_X_state_59 (by decide) ?_
      refine sw_iret (u := st) (v := (0 : Int32)) hx hb hr hlk hK hP hD hS d_X_state_60 rfl ?_
      rw [show cstate w st = _ from if_pos h0, h52]
      exact ⟨rfl, rfl⟩
    · skip
      refine lv_iconst (v := 1) hx hb d_X_state_55 (by decide) ?_
      refine lv_goto (tgt := 60) hx hb d_X_state_56 (by decide) ?_
      refine sw_iret (u := st) (v := (1 : Int32)) hx hb hr hlk hK hP hD hS d_X_state_60 rfl ?_
      rw [show cstate w st = _ from if_pos h0, h52]
      exact ⟨rfl, rfl⟩
  · skip
    refine sw_tp (y := 1) h0 ?_
    refine lv_tableIn (tgt := 61) (off := 60) hx hb d_X_state_1 (by decide) (by decide) (by decide) (by decide) ?_
    refine lv_aload_n hx hb d_X_state_61 rfl (lv_at hl 0 rfl) ?_
    refine va_get (D := D) (ci := 0) (v := .int st.2.1.2) (C := R_X) (T := T_X) (N := 5) hx hb hts in_X hown hK hP 0 rfl rfl 4 (by decide) (hts _ wm_70) (fun _ h9 => h9) rfl d_X_state_62 ?_
    refine sw_iret (u := st) (v := st.2.1.2) hx hb hr hlk hK hP hD hS d_X_state_65 rfl ?_
    exact ⟨(show cstate w st = _ from (if_neg (by rw [h0]; decide)).trans (if_pos h0)).symm, rfl⟩
  · skip
    refine sw_tp (y := 2) h0 ?_
    refine lv_tableIn (tgt := 66) (off := 65) hx hb d_X_state_1 (by decide) (by decide) (by decide) (by decide) ?_
    refine lv_aload_n hx hb d_X_state_66 rfl (lv_at hl 0 rfl) ?_
    refine va_get (D := D) (ci := 0) (v := .ref aP) (C := R_X) (T := T_X) (N := 5) hx hb hts in_X hown hK hP 0 rfl rfl 2 (by decide) (hts _ wm_68) (fun _ h9 => h9) rfl d_X_state_67 ?_
    refine sw_callVi (rest := []) 4 3 [] hx hb hml hown hts hK hN hA hP hD hS (k_P_nextByte l D cA aX aF aB aL aP st _) cw_X_90 rfl rfl rfl ⟨Nat.le_of_ble_eq_true rfl, Nat.le_of_ble_eq_true rfl⟩ hl.1 rfl rfl (Nat.le_of_ble_eq_true rfl) d_X_state_70 (fun r70 u70 H locs hq70 hP hD hS => ?_)
    obtain ⟨hr70, hq70⟩ := hq70
    rw [hr70]
    rw [hq70] at hP hD
    refine sw_iret (u := st) (v := st.2.2.2.2.1) hx hb hr hlk hK hP hD hS d_X_state_73 rfl ?_
    exact ⟨(show cstate w st = _ from (if_neg (by rw [h0]; decide)).trans ((if_neg (by rw [h0]; decide)).trans (if_pos h0))).symm, rfl⟩
  · skip
    refine sw_tp (y := 3) h0 ?_
    refine lv_tableIn (tgt := 74) (off := 73) hx hb d_X_state_1 (by decide) (by decide) (by decide) (by decide) ?_
    refine lv_aload_n hx hb d_X_state_74 rfl (lv_at hl 0 rfl) ?_
    refine va_get (D := D) (ci := 0) (v := .ref aP) (C := R_X) (T := T_X) (N := 5) hx hb hts in_X hown hK hP 0 rfl rfl 2 (by decide) (hts _ wm_68) (fun _ h9 => h9) rfl d_X_state_75 ?_
    refine sw_callVi (rest := []) 4 3 [] hx hb hml hown hts hK hN hA hP hD hS (k_P_currentPlace l D cA aX aF aB aL aP st _) cw_X_117 rfl rfl rfl ⟨Nat.le_of_ble_eq_true rfl, Nat.le_of_ble_eq_true rfl⟩ hl.1 rfl rfl (Nat.le_of_ble_eq_true rfl) d_X_state_78 (fun r78 u78 H locs hq78 hP hD hS => ?_)
    obtain ⟨hr78, hq78⟩ := hq78
    rw [hr78]
    rw [hq78] at hP hD
    refine sw_iret (u := st) (v := st.2.2.2.2.2.1) hx hb hr hlk hK hP hD hS d_X_state_81 rfl ?_
    exact ⟨(show cstate w st = _ from (if_neg (by rw [h0]; decide)).trans ((if_neg (by rw [h0]; decide)).trans ((if_neg (by rw [h0]; decide)).trans (if_pos h0)))).symm, rfl⟩
  · skip
    refine sw_tp (y := 4) h0 ?_
    refine lv_tableIn (tgt := 82) (off := 81) hx hb d_X_state_1 (by decide) (by decide) (by decide) (by decide) ?_
    refine lv_aload_n hx hb d_X_state_82 rfl (lv_at hl 0 rfl) ?_
    refine va_get (D := D) (ci := 0) (v := .ref aL) (C := R_X) (T := T_X) (N := 5) hx hb hts in_X hown hK hP 0 rfl rfl 1 (by decide) (hts _ wm_67) (fun _ h9 => h9) rfl d_X_state_83 ?_
    refine lv_bipush (v := 13) hx hb d_X_state_86 (by decide) ?_
    refine sw_callVi (rest := []) 3 2 [.int (nI 13)] hx hb hml hown hts hK hN hA hP hD hS (k_L_stepsDone l D cA aX aF aB aL aP st _ 13 (by omega)) cw_X_120 rfl rfl rfl ⟨Nat.le_of_ble_eq_true rfl, Nat.le_of_ble_eq_true rfl⟩ hl.1 rfl rfl (Nat.le_of_ble_eq_true rfl) d_X_state_88 (fun r88 u88 H locs hq88 hP hD hS => ?_)
    obtain ⟨hr88, hq88⟩ := hq88
    rw [hr88]
    rw [hq88] at hP hD
    refine sw_iret (u := st) (v := nI (pcnt st.1.1 13 18 0 0)) hx hb hr hlk hK hP hD hS d_X_state_91 rfl ?_
    exact ⟨(show cstate w st = _ from (if_neg (by rw [h0]; decide)).trans ((if_neg (by rw [h0]; decide)).trans ((if_neg (by rw [h0]; decide)).trans ((if_neg (by rw [h0]; decide)).trans (if_pos h0))))).symm, rfl⟩
  · skip
    refine sw_tp (y := 5) h0 ?_
    refine lv_tableIn (tgt := 92) (off := 91) hx hb d_X_state_1 (by decide) (by decide) (by decide) (by decide) ?_
    refine lv_aload_n hx hb d_X_state_92 rfl (lv_at hl 0 rfl) ?_
    refine va_get (D := D) (ci := 0) (v := .ref aL) (C := R_X) (T := T_X) (N := 5) hx hb hts in_X hown hK hP 0 rfl rfl 1 (by decide) (hts _ wm_67) (fun _ h9 => h9) rfl d_X_state_93 ?_
    refine lv_bipush (v := 14) hx hb d_X_state_96 (by decide) ?_
    refine sw_callVi (rest := []) 3 2 [.int (nI 14)] hx hb hml hown hts hK hN hA hP hD hS (k_L_stepsDone l D cA aX aF aB aL aP st _ 14 (by omega)) cw_X_120 rfl rfl rfl ⟨Nat.le_of_ble_eq_true rfl, Nat.le_of_ble_eq_true rfl⟩ hl.1 rfl rfl (Nat.le_of_ble_eq_true rfl) d_X_state_98 (fun r98 u98 H locs hq98 hP hD hS => ?_)
    obtain ⟨hr98, hq98⟩ := hq98
    rw [hr98]
    rw [hq98] at hP hD
    refine sw_iret (u := st) (v := nI (pcnt st.1.1 14 18 0 0)) hx hb hr hlk hK hP hD hS d_X_state_101 rfl ?_
    exact ⟨(show cstate w st = _ from (if_neg (by rw [h0]; decide)).trans ((if_neg (by rw [h0]; decide)).trans ((if_neg (by rw [h0]; decide)).trans ((if_neg (by rw [h0]; decide)).trans ((if_neg (by rw [h0]; decide)).trans (if_pos h0)))))).symm, rfl⟩
  · skip
    refine sw_tp (y := 6) h0 ?_
    refine lv_tableIn (tgt := 102) (off := 101) hx hb d_X_state_1 (by decide) (by decide) (by decide) (by decide) ?_
    refine lv_aload_n hx hb d_X_state_102 rfl (lv_at hl 0 rfl) ?_
    refine va_get (D := D) (ci := 0) (v := .ref aF) (C := R_X) (T := T_X) (N := 5) hx hb hts in_X hown hK hP 0 rfl rfl 0 (by decide) (hts _ wm_66) (fun _ h9 => h9) rfl d_X_state_103 ?_
    refine sw_callVi (rest := []) 1 1 [] hx hb hml hown hts hK hN hA hP hD hS (k_F_operationCount l D cA aX aF aB aL aP st _) cw_X_123 rfl rfl rfl ⟨Nat.le_of_ble_eq_true rfl, Nat.le_of_ble_eq_true rfl⟩ hl.1 rfl rfl (Nat.le_of_ble_eq_true rfl) d_X_state_106 (fun r106 u106 H locs hq106 hP hD hS => ?_)
    obtain ⟨hr106, hq106⟩ := hq106
    rw [hr106]
    rw [hq106] at hP hD
    refine sw_iret (u := st) (v := st.1.2.2.1) hx hb hr hlk hK hP hD hS d_X_state_109 rfl ?_
    exact ⟨(show cstate w st = _ from (if_neg (by rw [h0]; decide)).trans ((if_neg (by rw [h0]; decide)).trans ((if_neg (by rw [h0]; decide)).trans ((if_neg (by rw [h0]; decide)).trans ((if_neg (by rw [h0]; decide)).trans ((if_neg (by rw [h0]; decide)).trans (if_pos h0))))))).symm, rfl⟩
  · skip
    refine sw_tp (y := 7) h0 ?_
    refine lv_tableIn (tgt := 110) (off := 109) hx hb d_X_state_1 (by decide) (by decide) (by decide) (by decide) ?_
    refine lv_aload_n hx hb d_X_state_110 rfl (lv_at hl 0 rfl) ?_
    refine va_get (D := D) (ci := 0) (v := .ref aF) (C := R_X) (T := T_X) (N := 5) hx hb hts in_X hown hK hP 0 rfl rfl 0 (by decide) (hts _ wm_66) (fun _ h9 => h9) rfl d_X_state_111 ?_
    refine sw_callVi (rest := []) 1 1 [] hx hb hml hown hts hK hN hA hP hD hS (k_F_writeCount l D cA aX aF aB aL aP st _) cw_X_126 rfl rfl rfl ⟨Nat.le_of_ble_eq_true rfl, Nat.le_of_ble_eq_true rfl⟩ hl.1 rfl rfl (Nat.le_of_ble_eq_true rfl) d_X_state_114 (fun r114 u114 H locs hq114 hP hD hS => ?_)
    obtain ⟨hr114, hq114⟩ := hq114
    rw [hr114]
    rw [hq114] at hP hD
    refine sw_iret (u := st) (v := st.1.2.2.2) hx hb hr hlk hK hP hD hS d_X_state_117 rfl ?_
    exact ⟨(show cstate w st = _ from (if_neg (by rw [h0]; decide)).trans ((if_neg (by rw [h0]; decide)).trans ((if_neg (by rw [h0]; decide)).trans ((if_neg (by rw [h0]; decide)).trans ((if_neg (by rw [h0]; decide)).trans ((if_neg (by rw [h0]; decide)).trans ((if_neg (by rw [h0]; decide)).trans (if_pos h0)))))))).symm, rfl⟩
  · skip
    refine lv_tableOut (tgt := 118) hx hb d_X_state_1 (s8_out h0) (by decide) ?_
    refine lv_iconst (v := -1) hx hb d_X_state_118 (by decide) ?_
    refine sw_iret (u := st) (v := (-1 : Int32)) hx hb hr hlk hK hP hD hS d_X_state_119 rfl ?_
    exact ⟨(show cstate w st = _ from (if_neg h0.1).trans ((if_neg h0.2.1).trans ((if_neg h0.2.2.1).trans ((if_neg h0.2.2.2.1).trans ((if_neg h0.2.2.2.2.1).trans ((if_neg h0.2.2.2.2.2.1).trans ((if_neg h0.2.2.2.2.2.2.1).trans (if_neg h0.2.2.2.2.2.2.2)))))))).symm, rfl⟩
set_option maxHeartbeats 4000000 in
set_option maxRecDepth 100000 in
theorem k_X_begin (l : Launch) (D : va_G) (cA : ClassId) (aX aF aB aL aP : Nat) (st : St) (sz : Nat) (v n : Int32) : Ci l y_X_begin b_X_begin 4 (some .int) 4 D cA (CW cA aX aF aB aL aP) st sz [.ref aX, .int v, .int n] (fun r u => r = (cbegin v n st).1 ∧ u = (cbegin v n st).2) := by
  refine Ci.enter (by decide) (Nat.le_of_ble_eq_true rfl) ?_
  intro pr en s0 m0 ar bl me co A ls hx hb hml hr hlk hown hts hK hN hA hP hD hS hl
  have hl : lv_has ls 4 [(0, .ref aX), (1, .int v), (2, .int n)] := hl
  have hown : s0.vm.findClass R_X = some m0.cls := hown
  refine lv_aload_n hx hb d_X_begin_0 rfl (lv_at hl 0 rfl) ?_
  refine va_get (D := D) (ci := 0) (v := .int st.2.1.2) (C := R_X) (T := T_X) (N := 5) hx hb hts in_X hown hK hP 0 rfl rfl 4 (by decide) (hts _ wm_70) (fun _ h9 => h9) rfl d_X_begin_1 ?_
  refine lv_if_eq (tgt := 25) hx hb d_X_begin_4 (by decide) (fun h4 => ?_) (fun h4 => ?_)
  · skip
    refine lv_iconst (v := -1) hx hb d_X_begin_25 (by decide) ?_
    refine sw_iret (u := st) (v := (-1 : Int32)) hx hb hr hlk hK hP hD hS d_X_begin_26 rfl ?_
    rw [show cbegin v n st = _ from if_pos (decide_eq_true (Or.inl h4))]
    exact ⟨rfl, rfl⟩
  · skip
    refine lv_iload_n hx hb d_X_begin_7 rfl (lv_at hl 1 rfl) ?_
    refine lv_iload_n hx hb d_X_begin_8 rfl (lv_at hl 2 rfl) ?_
    refine sw_callSi (rest := []) [.int v, .int n] hx hb hml hown hts hK hN hA hP hD hS (k_X_isImageSize l D cA aX aF aB aL aP st _ v n) cw_X_40 ⟨Nat.le_of_ble_eq_true rfl, Nat.le_of_ble_eq_true rfl⟩ hl.1 rfl rfl (Nat.le_of_ble_eq_true rfl) d_X_begin_9 (fun r9 u9 H locs hq9 hP hD hS => ?_)
    obtain ⟨hr9, hq9⟩ := hq9
    rw [hr9]
    rw [hq9] at hP hD
    refine sw_bz_eq (tgt := 25) hx hb d_X_begin_12 (by decide) (fun h12 => ?_) (fun h12 => ?_)
    · skip
      refine lv_iconst (v := -1) hx hb d_X_begin_25 (by decide) ?_
      refine sw_iret (u := st) (v := (-1 : Int32)) hx hb hr hlk hK hP hD hS d_X_begin_26 rfl ?_
      rw [show cbegin v n st = _ from if_pos (decide_eq_true (Or.inr (Or.inl h12)))]
      exact ⟨rfl, rfl⟩
    · skip
      refine lv_aload_n hx hb d_X_begin_15 rfl (lv_at hl 0 rfl) ?_
      refine va_get (D := D) (ci := 0) (v := .ref aL) (C := R_X) (T := T_X) (N := 5) hx hb hts in_X hown hK hP 0 rfl rfl 1 (by decide) (hts _ wm_67) (fun _ h9 => h9) rfl d_X_begin_16 ?_
      refine sw_callVi (rest := []) 3 2 [] hx hb hml hown hts hK hN hA hP hD hS (k_L_isBusy l D cA aX aF aB aL aP st _) cw_X_79 rfl rfl rfl ⟨Nat.le_of_ble_eq_true rfl, Nat.le_of_ble_eq_true rfl⟩ hl.1 rfl rfl (Nat.le_of_ble_eq_true rfl) d_X_begin_19 (fun r19 u19 H locs hq19 hP hD hS => ?_)
      obtain ⟨hr19, hq19⟩ := hq19
      rw [hr19]
      rw [hq19] at hP hD
      refine sw_bz_eq (tgt := 27) hx hb d_X_begin_22 (by decide) (fun h22 => ?_) (fun h22 => ?_)
      · skip
        refine lv_iconst (v := 0) hx hb d_X_begin_27 (by decide) ?_
        refine lv_istore_n hx hb d_X_begin_28 rfl hl (by decide) rfl (fun ls hl => ?_)
        have hl : lv_has ls 4 [(3, .int (0 : Int32)), (0, .ref aX), (1, .int v), (2, .int n)] := hl
        have loop : ∀ (d : Nat) (p0 : Nat) (u : St) (H : Heap) (locs : List Loc) (ls : Array Slot), 6 - p0 = d → p0 ≤ 6 → perl (6 - p0) p0 (u.1, false) = perl 6 0 (st.1, false) → u.2 = st.2 → lv_has ls 4 [(3, .int (nI p0)), (0, .ref aX), (1, .int v), (2, .int n)] → va_P D vwC (CW cA aX aF aB aL aP u) H → va_D A (CW cA aX aF aB aL aP u) → va_S A s0.heap H locs → W pr l en (lvr 4) s0 m0 ar bl me co H locs 0 0 (MQ bl (va_Qi (fun r u => r = (cbegin v n st).1 ∧ u = (cbegin v n st).2) (sw_B D cA A (CW cA aX aF aB aL aP)) A) ar s0 0 0 A) (F0 m0 29 ls []) := by
          intro d
          induction d using Nat.strongRecOn with
          | ind d ih =>
            intro p0 u H locs ls hd hp hT hE hl hP hD hS
            refine lv_iload_n hx hb d_X_begin_29 rfl (lv_at hl 0 rfl) ?_
            refine lv_bipush (v := 6) hx hb d_X_begin_30 (by decide) ?_
            refine sw_nc_ge (a := p0) (b := 6) (tgt := 60) hx hb (by omega) (by omega) d_X_begin_32 (by decide) (fun h32 => ?_) (fun h32 => ?_)
            · skip
              refine lv_aload_n hx hb d_X_begin_60 rfl (lv_at hl 1 rfl) ?_
              refine va_get (D := D) (ci := 0) (v := .ref aP) (C := R_X) (T := T_X) (N := 5) hx hb hts in_X hown hK hP 0 rfl rfl 2 (by decide) (hts _ wm_68) (fun _ h9 => h9) rfl d_X_begin_61 ?_
              refine lv_iload_n hx hb d_X_begin_64 rfl (lv_at hl 2 rfl) ?_
              refine lv_iload_n hx hb d_X_begin_65 rfl (lv_at hl 3 rfl) ?_
              refine sw_callVv (rest := []) 4 3 [.int v, .int n] hx hb hml hown hts hK hN hA hP hD hS (k_P_start l D cA aX aF aB aL aP u _ v n) cw_X_86 rfl rfl rfl ⟨Nat.le_of_ble_eq_true rfl, Nat.le_of_ble_eq_true rfl⟩ hl.1 rfl rfl (Nat.le_of_ble_eq_true rfl) d_X_begin_66 (fun u66 H locs hq66 hP hD hS => ?_)
              have hu66 : u66 = (u.1, u.2.1, v, n, 4, 4, 0, 0) := hq66
              refine lv_aload_n hx hb d_X_begin_69 rfl (lv_at hl 1 rfl) ?_
              refine va_get (D := D) (ci := 0) (v := .ref aP) (C := R_X) (T := T_X) (N := 5) hx hb hts in_X hown hK hP 0 rfl rfl 2 (by decide) (hts _ wm_68) (fun _ h9 => h9) rfl d_X_begin_70 ?_
              refine sw_callVi (rest := []) 4 3 [] hx hb hml hown hts hK hN hA hP hD hS (k_P_nextByte l D cA aX aF aB aL aP u66 _) cw_X_90 rfl rfl rfl ⟨Nat.le_of_ble_eq_true rfl, Nat.le_of_ble_eq_true rfl⟩ hl.1 rfl rfl (Nat.le_of_ble_eq_true rfl) d_X_begin_73 (fun r73 u73 H locs hq73 hP hD hS => ?_)
              obtain ⟨hr73, hq73⟩ := hq73
              rw [hr73]
              rw [hq73] at hP hD
              refine sw_iret (u := u66) (v := u66.2.2.2.2.1) hx hb hr hlk hK hP hD hS d_X_begin_76 rfl ?_
              have hno : cbegno v n st = false := decide_eq_false (fun q => q.elim h4 (fun q => q.elim (fun q => by rw [h12] at q; cases q) (fun q => by rw [h22] at q; cases q)))
              have hp : p0 = 6 := by omega
              subst hp
              have hz : perl 6 0 (st.1, false) = (u.1, false) := (perl_0.symm.trans hT).symm
              rw [show cbegin v n st = _ from (if_neg (by rw [hno]; decide)).trans (if_neg (by rw [hz]; exact Bool.false_ne_true)), hz]
              exact ⟨by rw [hu66], by rw [hu66, hE]⟩
            · skip
              refine lv_aload_n hx hb d_X_begin_35 rfl (lv_at hl 1 rfl) ?_
              refine va_get (D := D) (ci := 0) (v := .ref aF) (C := R_X) (T := T_X) (N := 5) hx hb hts in_X hown hK hP 0 rfl rfl 0 (by decide) (hts _ wm_66) (fun _ h9 => h9) rfl d_X_begin_36 ?_
              refine lv_bipush (v := 6) hx hb d_X_begin_39 (by decide) ?_
              refine lv_iload_n hx hb d_X_begin_41 rfl (lv_at hl 0 rfl) ?_
              refine lv_iadd hx hb d_X_begin_42 ?_
              refine sw_tp (y := nI (6 + p0)) (nI_add 6 p0) ?_
              refine sw_callVi (rest := []) 1 1 [.int (nI (6 + p0))] hx hb hml hown hts hK hN hA hP hD hS (k_F_erasePage l D cA aX aF aB aL aP u _ (6 + p0) (by omega)) cw_X_82 rfl rfl rfl ⟨Nat.le_of_ble_eq_true rfl, Nat.le_of_ble_eq_true rfl⟩ hl.1 rfl rfl (Nat.le_of_ble_eq_true rfl) d_X_begin_43 (fun r43 u43 H locs hq43 hP hD hS => ?_)
              obtain ⟨hr43, hu43⟩ := hq43
              rw [hr43]
              refine sw_bz_ne (tgt := 54) hx hb d_X_begin_46 (by decide) (fun h46 => ?_) (fun h46 => ?_)
              · skip
                refine lv_iinc (k := 0) (v := nI (p0 + 1)) hx hb d_X_begin_54 hl rfl (nI_1 _) (by decide) rfl (fun ls hl => ?_)
                have hl : lv_has ls 4 [(3, .int (nI (p0 + 1))), (0, .ref aX), (1, .int v), (2, .int n)] := hl
                refine lv_goto (tgt := 29) hx hb d_X_begin_57 (by decide) ?_
                exact ih (6 - (p0 + 1)) (by omega) (p0 + 1) u43 _ _ _ rfl (by omega) (by rw [← hT, perl_s (p := p0) (by omega), hu43]; exact congrArg (perl (6 - (p0 + 1)) (p0 + 1)) (mz_eq (mz_ok h46))) (by rw [hu43]; exact hE) (lv_sub hl [0, 1, 2, 3] rfl) hP hD hS
              · skip
                refine lv_aload_n hx hb d_X_begin_49 rfl (lv_at hl 1 rfl) ?_
                refine sw_callVi (rest := []) 0 0 [] hx hb hml hown hts hK hN hA hP hD hS (k_X_powerGone l D cA aX aF aB aL aP u43 _) cw_X_64 rfl rfl rfl ⟨Nat.le_of_ble_eq_true rfl, Nat.le_of_ble_eq_true rfl⟩ hl.1 rfl rfl (Nat.le_of_ble_eq_true rfl) d_X_begin_50 (fun r50 u50 H locs hq50 hP hD hS => ?_)
                obtain ⟨hr50, hu50⟩ := hq50
                rw [hr50]
                refine sw_iret (u := u50) (v := ((-2))) hx hb hr hlk hK hP hD hS d_X_begin_53 rfl ?_
                have hno : cbegno v n st = false := decide_eq_false (fun q => q.elim h4 (fun q => q.elim (fun q => by rw [h12] at q; cases q) (fun q => by rw [h22] at q; cases q)))
                have hw := mz_no h46
                have hz : perl 6 0 (st.1, false) = perase (6 + p0) (u.1, false) := by rw [← hT, perl_s (p := p0) (by omega), perl_went hw]
                rw [show cbegin v n st = _ from (if_neg (by rw [hno]; decide)).trans (if_pos (by rw [hz]; exact hw)), hz]
                exact ⟨rfl, by rw [hu50, hu43]; unfold closs cgone; rw [hE]⟩
        exact loop _ 0 st _ _ _ rfl (by omega) rfl rfl (lv_sub hl [0, 1, 2, 3] rfl) hP hD hS
      · skip
        refine lv_iconst (v := -1) hx hb d_X_begin_25 (by decide) ?_
        refine sw_iret (u := st) (v := (-1 : Int32)) hx hb hr hlk hK hP hD hS d_X_begin_26 rfl ?_
        rw [show cbegin v n st = _ from if_pos (decide_eq_true (Or.inr (Or.inr h22)))]
        exact ⟨rfl, rfl⟩
