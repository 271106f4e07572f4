/-! 21.byteat: by program (wip/whole/src/gen.py) out of the bytecode and the specs. -/
theorem d_X_byteAt_0 : decode b_X_byteAt 0 = .ok (.iload_n 1, 1) := by decide +kernel
theorem d_X_byteAt_1 : decode b_X_byteAt 1 = .ok (.ifCond .lt 10, 3) := by decide +kernel
theorem d_X_byteAt_4 : decode b_X_byteAt 4 = .ok (.iload_n 1, 1) := by decide +kernel
theorem d_X_byteAt_5 : decode b_X_byteAt 5 = .ok (.sipush 240, 3) := by decide +kernel
theorem d_X_byteAt_8 : decode b_X_byteAt 8 = .ok (.if_icmp .lt 11, 3) := by decide +kernel
theorem d_X_byteAt_11 : decode b_X_byteAt 11 = .ok (.new 111, 3) := by decide +kernel
theorem d_X_byteAt_14 : decode b_X_byteAt 14 = .ok (.dup, 1) := by decide +kernel
theorem d_X_byteAt_15 : decode b_X_byteAt 15 = .ok (.invokespecial 113, 3) := by decide +kernel
theorem d_X_byteAt_18 : decode b_X_byteAt 18 = .ok (.athrow, 1) := by decide +kernel
theorem d_X_byteAt_19 : decode b_X_byteAt 19 = .ok (.aload_n 0, 1) := by decide +kernel
theorem d_X_byteAt_20 : decode b_X_byteAt 20 = .ok (.getfield 12, 3) := by decide +kernel
theorem d_X_byteAt_23 : decode b_X_byteAt 23 = .ok (.iload_n 1, 1) := by decide +kernel
theorem d_X_byteAt_24 : decode b_X_byteAt 24 = .ok (.invokevirtual 114, 3) := by decide +kernel
theorem d_X_byteAt_27 : decode b_X_byteAt 27 = .ok (.ireturn, 1) := by decide +kernel
set_option maxHeartbeats 4000000 in
set_option maxRecDepth 100000 in
theorem k_X_byteAt (l : Launch) (D : va_G) (cA : ClassId) (aX aF aB aL aP : Nat) (st : St) (sz : Nat) (n : Nat) (hn : n < 240) : Ci l y_X_byteAt b_X_byteAt 2 (some .int) 1 D cA (CW cA aX aF aB aL aP) st sz [.ref aX, .int (nI n)] (fun r u => r = st.1.1 n ∧ u = st) := by
  refine Ci.enter (by decide) (Nat.le_of_ble_eq_true rfl) ?_
  intro pr en s0 m0 ar bl me co A ls hx hb hml hr hlk hown hts hK hN hA hP hD hS hl
  have hl : lv_has ls 2 [(0, .ref aX), (1, .int (nI n))] := hl
  have hown : s0.vm.findClass R_X = some m0.cls := hown
  refine lv_iload_n hx hb d_X_byteAt_0 rfl (lv_at hl 1 rfl) ?_
  refine lv_if_lt (tgt := 11) hx hb d_X_byteAt_1 (by decide) (fun h1 => ?_) (fun h1 => ?_)
  · exact absurd ((nI_ltI (b := 0) (by omega) (by decide)).mp (show nI n < nI 0 from h1)) (Nat.not_lt_zero _)
  · skip
    refine lv_iload_n hx hb d_X_byteAt_4 rfl (lv_at hl 1 rfl) ?_
    refine lv_sipush (v := 240) hx hb d_X_byteAt_5 (by decide) ?_
    refine sw_nc_lt (a := n) (b := 240) (tgt := 19) hx hb (by omega) (by omega) d_X_byteAt_8 (by decide) (fun h8 => ?_) (fun h8 => ?_)
    · skip
      refine lv_aload_n hx hb d_X_byteAt_19 rfl (lv_at hl 0 rfl) ?_
      refine va_get (D := D) (ci := 0) (v := .ref aF) (C := R_X) (T := T_X) (N := 5) hx hb hts in_X hown hK hP 0 rfl rfl 0 (by decide) (hts _ wm_66) (fun _ h9 => h9) rfl d_X_byteAt_20 ?_
      refine lv_iload_n hx hb d_X_byteAt_23 rfl (lv_at hl 1 rfl) ?_
      refine sw_callVi (rest := []) 1 1 [.int (nI n)] hx hb hml hown hts hK hN hA hP hD hS (k_F_read l D cA aX aF aB aL aP st _ n (by omega)) cw_X_114 rfl rfl rfl ⟨Nat.le_of_ble_eq_true rfl, Nat.le_of_ble_eq_true rfl⟩ hl.1 rfl rfl (Nat.le_of_ble_eq_true rfl) d_X_byteAt_24 (fun r24 u24 H locs hq24 hP hD hS => ?_)
      obtain ⟨hr24, hq24⟩ := hq24
      rw [hr24]
      rw [hq24] at hP hD
      refine sw_iret (u := st) (v := (st.1.1 n)) hx hb hr hlk hK hP hD hS d_X_byteAt_27 rfl ?_
      exact ⟨rfl, rfl⟩
    · omega
