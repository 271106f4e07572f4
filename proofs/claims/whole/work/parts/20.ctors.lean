/-! The constructors. -/
def BW (cA : ClassId) (aB : Nat) (f : Nat → Int32) : va_W := [(aB, .inl (cA, 240, .inl f))]
theorem d_F_init_0 : decode b_F_init 0 = .ok (.aload_n 0, 1) := by decide +kernel
theorem d_F_init_1 : decode b_F_init 1 = .ok (.invokespecial 3, 3) := by decide +kernel
theorem d_F_init_4 : decode b_F_init 4 = .ok (.aload_n 0, 1) := by decide +kernel
theorem d_F_init_5 : decode b_F_init 5 = .ok (.sipush 240, 3) := by decide +kernel
theorem d_F_init_8 : decode b_F_init 8 = .ok (.newarray .int, 2) := by decide +kernel
theorem d_F_init_10 : decode b_F_init 10 = .ok (.putfield 9, 3) := by decide +kernel
theorem d_F_init_13 : decode b_F_init 13 = .ok (.aload_n 0, 1) := by decide +kernel
theorem d_F_init_14 : decode b_F_init 14 = .ok (.getfield 9, 3) := by decide +kernel
theorem d_F_init_17 : decode b_F_init 17 = .ok (.sipush 255, 3) := by decide +kernel
theorem d_F_init_20 : decode b_F_init 20 = .ok (.invokestatic 15, 3) := by decide +kernel
theorem d_F_init_23 : decode b_F_init 23 = .ok (.aload_n 0, 1) := by decide +kernel
theorem d_F_init_24 : decode b_F_init 24 = .ok (.iconst (-1), 1) := by decide +kernel
theorem d_F_init_25 : decode b_F_init 25 = .ok (.putfield 21, 3) := by decide +kernel
theorem d_F_init_28 : decode b_F_init 28 = .ok (.aload_n 0, 1) := by decide +kernel
theorem d_F_init_29 : decode b_F_init 29 = .ok (.iconst 0, 1) := by decide +kernel
theorem d_F_init_30 : decode b_F_init 30 = .ok (.putfield 25, 3) := by decide +kernel
theorem d_F_init_33 : decode b_F_init 33 = .ok (.aload_n 0, 1) := by decide +kernel
theorem d_F_init_34 : decode b_F_init 34 = .ok (.iconst 0, 1) := by decide +kernel
theorem d_F_init_35 : decode b_F_init 35 = .ok (.putfield 28, 3) := by decide +kernel
theorem d_F_init_38 : decode b_F_init 38 = .ok (.return_, 1) := by decide +kernel
theorem d_L_init_0 : decode b_L_init 0 = .ok (.aload_n 0, 1) := by decide +kernel
theorem d_L_init_1 : decode b_L_init 1 = .ok (.invokespecial 3, 3) := by decide +kernel
theorem d_L_init_4 : decode b_L_init 4 = .ok (.aload_n 0, 1) := by decide +kernel
theorem d_L_init_5 : decode b_L_init 5 = .ok (.aload_n 1, 1) := by decide +kernel
theorem d_L_init_6 : decode b_L_init 6 = .ok (.putfield 9, 3) := by decide +kernel
theorem d_L_init_9 : decode b_L_init 9 = .ok (.return_, 1) := by decide +kernel
theorem d_P_init_0 : decode b_P_init 0 = .ok (.aload_n 0, 1) := by decide +kernel
theorem d_P_init_1 : decode b_P_init 1 = .ok (.invokespecial 3, 3) := by decide +kernel
theorem d_P_init_4 : decode b_P_init 4 = .ok (.aload_n 0, 1) := by decide +kernel
theorem d_P_init_5 : decode b_P_init 5 = .ok (.aload_n 1, 1) := by decide +kernel
theorem d_P_init_6 : decode b_P_init 6 = .ok (.putfield 9, 3) := by decide +kernel
theorem d_P_init_9 : decode b_P_init 9 = .ok (.aload_n 0, 1) := by decide +kernel
theorem d_P_init_10 : decode b_P_init 10 = .ok (.iconst 0, 1) := by decide +kernel
theorem d_P_init_11 : decode b_P_init 11 = .ok (.putfield 15, 3) := by decide +kernel
theorem d_P_init_14 : decode b_P_init 14 = .ok (.aload_n 0, 1) := by decide +kernel
theorem d_P_init_15 : decode b_P_init 15 = .ok (.iconst 0, 1) := by decide +kernel
theorem d_P_init_16 : decode b_P_init 16 = .ok (.putfield 19, 3) := by decide +kernel
theorem d_P_init_19 : decode b_P_init 19 = .ok (.return_, 1) := by decide +kernel
theorem d_X_init_0 : decode b_X_init 0 = .ok (.aload_n 0, 1) := by decide +kernel
theorem d_X_init_1 : decode b_X_init 1 = .ok (.invokespecial 3, 3) := by decide +kernel
theorem d_X_init_4 : decode b_X_init 4 = .ok (.aload_n 0, 1) := by decide +kernel
theorem d_X_init_5 : decode b_X_init 5 = .ok (.new 9, 3) := by decide +kernel
theorem d_X_init_8 : decode b_X_init 8 = .ok (.dup, 1) := by decide +kernel
theorem d_X_init_9 : decode b_X_init 9 = .ok (.invokespecial 11, 3) := by decide +kernel
theorem d_X_init_12 : decode b_X_init 12 = .ok (.putfield 12, 3) := by decide +kernel
theorem d_X_init_15 : decode b_X_init 15 = .ok (.aload_n 0, 1) := by decide +kernel
theorem d_X_init_16 : decode b_X_init 16 = .ok (.new 16, 3) := by decide +kernel
theorem d_X_init_19 : decode b_X_init 19 = .ok (.dup, 1) := by decide +kernel
theorem d_X_init_20 : decode b_X_init 20 = .ok (.aload_n 0, 1) := by decide +kernel
theorem d_X_init_21 : decode b_X_init 21 = .ok (.getfield 12, 3) := by decide +kernel
theorem d_X_init_24 : decode b_X_init 24 = .ok (.invokespecial 18, 3) := by decide +kernel
theorem d_X_init_27 : decode b_X_init 27 = .ok (.putfield 21, 3) := by decide +kernel
theorem d_X_init_30 : decode b_X_init 30 = .ok (.aload_n 0, 1) := by decide +kernel
theorem d_X_init_31 : decode b_X_init 31 = .ok (.new 25, 3) := by decide +kernel
theorem d_X_init_34 : decode b_X_init 34 = .ok (.dup, 1) := by decide +kernel
theorem d_X_init_35 : decode b_X_init 35 = .ok (.aload_n 0, 1) := by decide +kernel
theorem d_X_init_36 : decode b_X_init 36 = .ok (.getfield 12, 3) := by decide +kernel
theorem d_X_init_39 : decode b_X_init 39 = .ok (.invokespecial 27, 3) := by decide +kernel
theorem d_X_init_42 : decode b_X_init 42 = .ok (.putfield 28, 3) := by decide +kernel
theorem d_X_init_45 : decode b_X_init 45 = .ok (.aload_n 0, 1) := by decide +kernel
theorem d_X_init_46 : decode b_X_init 46 = .ok (.iconst 0, 1) := by decide +kernel
theorem d_X_init_47 : decode b_X_init 47 = .ok (.putfield 32, 3) := by decide +kernel
theorem d_X_init_50 : decode b_X_init 50 = .ok (.aload_n 0, 1) := by decide +kernel
theorem d_X_init_51 : decode b_X_init 51 = .ok (.iconst 0, 1) := by decide +kernel
theorem d_X_init_52 : decode b_X_init 52 = .ok (.putfield 36, 3) := by decide +kernel
theorem d_X_init_55 : decode b_X_init 55 = .ok (.return_, 1) := by decide +kernel
theorem d_M_init_0 : decode b_M_init 0 = .ok (.aload_n 0, 1) := by decide +kernel
theorem d_M_init_1 : decode b_M_init 1 = .ok (.invokespecial 1, 3) := by decide +kernel
theorem d_M_init_4 : decode b_M_init 4 = .ok (.aload_n 0, 1) := by decide +kernel
theorem d_M_init_5 : decode b_M_init 5 = .ok (.sipush 240, 3) := by decide +kernel
theorem d_M_init_8 : decode b_M_init 8 = .ok (.newarray .int, 2) := by decide +kernel
theorem d_M_init_10 : decode b_M_init 10 = .ok (.putfield 7, 3) := by decide +kernel
theorem d_M_init_13 : decode b_M_init 13 = .ok (.aload_n 0, 1) := by decide +kernel
theorem d_M_init_14 : decode b_M_init 14 = .ok (.iconst (-1), 1) := by decide +kernel
theorem d_M_init_15 : decode b_M_init 15 = .ok (.putfield 13, 3) := by decide +kernel
theorem d_M_init_18 : decode b_M_init 18 = .ok (.iconst 0, 1) := by decide +kernel
theorem d_M_init_19 : decode b_M_init 19 = .ok (.istore_n 1, 1) := by decide +kernel
theorem d_M_init_20 : decode b_M_init 20 = .ok (.iload_n 1, 1) := by decide +kernel
theorem d_M_init_21 : decode b_M_init 21 = .ok (.sipush 240, 3) := by decide +kernel
theorem d_M_init_24 : decode b_M_init 24 = .ok (.if_icmp .ge 18, 3) := by decide +kernel
theorem d_M_init_27 : decode b_M_init 27 = .ok (.aload_n 0, 1) := by decide +kernel
theorem d_M_init_28 : decode b_M_init 28 = .ok (.getfield 7, 3) := by decide +kernel
theorem d_M_init_31 : decode b_M_init 31 = .ok (.iload_n 1, 1) := by decide +kernel
theorem d_M_init_32 : decode b_M_init 32 = .ok (.sipush 255, 3) := by decide +kernel
theorem d_M_init_35 : decode b_M_init 35 = .ok (.iastore, 1) := by decide +kernel
theorem d_M_init_36 : decode b_M_init 36 = .ok (.iinc 1 1, 3) := by decide +kernel
theorem d_M_init_39 : decode b_M_init 39 = .ok (.goto (-19), 3) := by decide +kernel
theorem d_M_init_42 : decode b_M_init 42 = .ok (.return_, 1) := by decide +kernel
set_option maxHeartbeats 4000000 in
set_option maxRecDepth 100000 in
theorem k_A_fillB (l : Launch) (D : va_G) (cA : ClassId) (aB : Nat) (st : Nat → Int32) (sz : Nat) : Cv l y_A_fill b_A_fill 4 none 0 D cA (BW cA aB) st sz [.ref aB, .int (255 : Int32)] (fun u => u = pfill st 0 240) := by
  refine Cv.enter (by decide) (Nat.le_of_ble_eq_true rfl) ?_
  intro pr en s0 m0 ar bl me co A ls hx hb hml hr hlk hown hts hK hN hA hP hD hS hl
  have hl : lv_has ls 4 [(0, .ref aB), (1, .int (255 : Int32))] := hl
  have hown : s0.vm.findClass R_A = some m0.cls := hown
  refine lv_iconst (v := 0) hx hb d_A_fill_0 (by decide) ?_
  refine lv_istore_n hx hb d_A_fill_1 rfl hl (by decide) rfl (fun ls hl => ?_)
  have hl : lv_has ls 4 [(2, .int (0 : Int32)), (0, .ref aB), (1, .int (255 : Int32))] := hl
  refine lv_aload_n hx hb d_A_fill_2 rfl (lv_at hl 1 rfl) ?_
  refine va_alen (v := nI 240) hx hb hK hP 0 0 rfl rfl rfl d_A_fill_3 ?_
  refine lv_istore_n hx hb d_A_fill_4 rfl hl (by decide) rfl (fun ls hl => ?_)
  have hl : lv_has ls 4 [(3, .int (nI 240)), (2, .int (0 : Int32)), (0, .ref aB), (1, .int (255 : Int32))] := hl
  have loop : ∀ (d : Nat) (i : Nat) (u : Nat → Int32) (H : Heap) (locs : List Loc) (ls : Array Slot), 240 - i = d → i ≤ 240 → u = pfill st 0 i → lv_has ls 4 [(2, .int (nI i)), (3, .int (nI 240)), (0, .ref aB), (1, .int (255 : Int32))] → va_P D vwC (BW cA aB u) H → va_D A (BW cA aB u) → va_S A s0.heap H locs → W pr l en (lvr 0) s0 m0 ar bl me co H locs 0 0 (MQ bl (va_Qv (fun u => u = pfill st 0 240) (sw_B D cA A (BW cA aB)) A) ar s0 0 0 A) (F0 m0 5 ls []) := by
    intro d
    induction d using Nat.strongRecOn with
    | ind d ih =>
      intro i u H locs ls hd hi hF hl hP hD hS
      refine lv_iload_n hx hb d_A_fill_5 rfl (lv_at hl 0 rfl) ?_
      refine lv_iload_n hx hb d_A_fill_6 rfl (lv_at hl 1 rfl) ?_
      refine sw_nc_ge (a := i) (b := 240) (tgt := 20) hx hb (by omega) (by omega) d_A_fill_7 (by decide) (fun h7 => ?_) (fun h7 => ?_)
      · skip
        refine sw_vret (u := u) hx hb hr hlk hK hP hD hS d_A_fill_20 ?_
        have hi : i = 240 := by omega
        subst hi
        exact hF
      · skip
        refine lv_aload_n hx hb d_A_fill_10 rfl (lv_at hl 2 rfl) ?_
        refine lv_iload_n hx hb d_A_fill_11 rfl (lv_at hl 0 rfl) ?_
        refine lv_iload_n hx hb d_A_fill_12 rfl (lv_at hl 3 rfl) ?_
        refine sw_ast (n := i) (x := (255 : Int32)) (f := u) hx hb hK hP hD hS 0 0 rfl rfl (by omega) (by decide) d_A_fill_13 (fun H locs hP hD hS => ?_)
        have hP : va_P D vwC (BW cA aB (upd u i (255 : Int32))) H := hP
        have hD : va_D A (BW cA aB (upd u i (255 : Int32))) := hD
        refine lv_iinc (k := 0) (v := nI (i + 1)) hx hb d_A_fill_14 hl rfl (nI_1 _) (by decide) rfl (fun ls hl => ?_)
        have hl : lv_has ls 4 [(2, .int (nI (i + 1))), (3, .int (nI 240)), (0, .ref aB), (1, .int (255 : Int32))] := hl
        refine lv_goto (tgt := 5) hx hb d_A_fill_17 (by decide) ?_
        exact ih (240 - (i + 1)) (by omega) (i + 1) (upd u i (255 : Int32)) _ _ _ rfl (by omega) (by rw [hF]; exact pfill_s0 _ _) (lv_sub hl [0, 1, 2, 3] rfl) hP hD hS
  exact loop _ 0 st _ _ _ rfl (by omega) (pfill_0 _ _).symm (lv_sub hl [1, 0, 2, 3] rfl) hP hD hS
set_option maxHeartbeats 4000000 in
set_option maxRecDepth 100000 in
theorem k_L_init (l : Launch) (D : va_G) (cA : ClassId) (aL aF sz : Nat) : Ck l y_L_init b_L_init 2 (lvr 1) D cA [(aL, .inr (2, [.null]))] (fun v : Value => [(aL, .inr (2, [v]))]) sz [.ref aL, .ref aF] (fun v => v = .ref aF) 0 0 := by
  refine Ck.enter (by decide) rfl (Nat.le_of_ble_eq_true rfl) ?_
  intro pr en s0 m0 ar bl me co A ls hx hb hml hr hlk hin hown hts hK hN hA hP hD hS hl
  have hl : lv_has ls 2 [(0, .ref aL), (1, .ref aF)] := hl
  have hown : s0.vm.findClass R_L = some m0.cls := hown
  refine lv_aload_n hx hb d_L_init_0 rfl (lv_at hl 0 rfl) ?_
  refine sw_objI hx hb hml hown hts wm_43 wm_18 (show Cond.code objectInit ⟨#[0xb1]⟩ 1 none ∈ BIG from wm_19) hl.1 d_L_init_1 (Nat.le_of_ble_eq_true rfl) (Nat.le_of_ble_eq_true rfl) ?_
  refine lv_aload_n hx hb d_L_init_4 rfl (lv_at hl 0 rfl) ?_
  refine lv_aload_n hx hb d_L_init_5 rfl (lv_at hl 1 rfl) ?_
  refine va_putF (D := D) (ci := 2) (v := .ref aF) (ty := .object "SwapLoader$Flash") (C := R_L) (T := T_L) (N := 1) hx hb hts in_L ty_L ty_L_ok nm_L hown hK hP hD hS 0 rfl rfl 0 (by decide) (hts _ wm_44) (fun _ h9 => h9) rfl hin rfl (ty_L_ok 0 (by decide)) rfl rfl (Nat.le_of_ble_eq_true rfl) d_L_init_6 (fun H locs hP hD hS => ?_)
  exact sw_vretK (u := Value.ref aF) hx hb hr hlk hK hP hD hS d_L_init_9 rfl
set_option maxHeartbeats 4000000 in
set_option maxRecDepth 100000 in
theorem k_P_init (l : Launch) (D : va_G) (cA : ClassId) (aP aF sz : Nat) : Ck l y_P_init b_P_init 2 (lvr 1) D cA [(aP, .inr (3, [.null, .int 0, .int 0, .int 0, .int 0, .int 0, .int 0]))] (fun v : Value => [(aP, .inr (3, [v, .int 0, .int 0, .int 0, .int 0, .int 0, .int 0]))]) sz [.ref aP, .ref aF] (fun v => v = .ref aF) 0 0 := by
  refine Ck.enter (by decide) rfl (Nat.le_of_ble_eq_true rfl) ?_
  intro pr en s0 m0 ar bl me co A ls hx hb hml hr hlk hin hown hts hK hN hA hP hD hS hl
  have hl : lv_has ls 2 [(0, .ref aP), (1, .ref aF)] := hl
  have hown : s0.vm.findClass R_P = some m0.cls := hown
  refine lv_aload_n hx hb d_P_init_0 rfl (lv_at hl 0 rfl) ?_
  refine sw_objI hx hb hml hown hts wm_51 wm_18 (show Cond.code objectInit ⟨#[0xb1]⟩ 1 none ∈ BIG from wm_19) hl.1 d_P_init_1 (Nat.le_of_ble_eq_true rfl) (Nat.le_of_ble_eq_true rfl) ?_
  refine lv_aload_n hx hb d_P_init_4 rfl (lv_at hl 0 rfl) ?_
  refine lv_aload_n hx hb d_P_init_5 rfl (lv_at hl 1 rfl) ?_
  refine va_putF (D := D) (ci := 3) (v := .ref aF) (ty := .object "SwapLoader$Flash") (C := R_P) (T := T_P) (N := 7) hx hb hts in_P ty_P ty_P_ok nm_P hown hK hP hD hS 0 rfl rfl 0 (by decide) (hts _ wm_52) (fun _ h9 => h9) rfl hin rfl (ty_P_ok 0 (by decide)) rfl rfl (Nat.le_of_ble_eq_true rfl) d_P_init_6 (fun H locs hP hD hS => ?_)
  refine lv_aload_n hx hb d_P_init_9 rfl (lv_at hl 0 rfl) ?_
  refine lv_iconst (v := 0) hx hb d_P_init_10 (by decide) ?_
  refine va_put (D := D) (ci := 3) (v := .int 0) (ty := .int) (C := R_P) (T := T_P) (N := 7) hx hb hts in_P ty_P ty_P_ok nm_P hown hK hP hD hS 0 rfl rfl 3 (by decide) (hts _ wm_55) (fun _ h9 => h9) rfl (ty_P_ok 3 (by decide)) rfl rfl (Nat.le_of_ble_eq_true rfl) d_P_init_11 (fun H locs hP hD hS => ?_)
  refine lv_aload_n hx hb d_P_init_14 rfl (lv_at hl 0 rfl) ?_
  refine lv_iconst (v := 0) hx hb d_P_init_15 (by decide) ?_
  refine va_put (D := D) (ci := 3) (v := .int 0) (ty := .int) (C := R_P) (T := T_P) (N := 7) hx hb hts in_P ty_P ty_P_ok nm_P hown hK hP hD hS 0 rfl rfl 4 (by decide) (hts _ wm_56) (fun _ h9 => h9) rfl (ty_P_ok 4 (by decide)) rfl rfl (Nat.le_of_ble_eq_true rfl) d_P_init_16 (fun H locs hP hD hS => ?_)
  exact sw_vretK (u := Value.ref aF) hx hb hr hlk hK hP hD hS d_P_init_19 rfl
set_option maxHeartbeats 4000000 in
set_option maxRecDepth 100000 in
theorem k_F_init (l : Launch) (D : va_G) (cA : ClassId) (aF sz : Nat) : Ck l y_F_init b_F_init 1 { frames := 2, cells := 1, slots := 240, locals := 80 } D cA [(aF, .inr (1, [.null, .int 0, .int 0, .int 0]))] (fun aB : Nat => [(aF, .inr (1, [.ref aB, .int (-1), .int 0, .int 0])), (aB, .inl (cA, 240, .inl (pfill (fun _ => 0) 0 240)))]) sz [.ref aF] (fun _ => True) 1 240 := by
  refine Ck.enter (by decide) rfl (Nat.le_of_ble_eq_true rfl) ?_
  intro pr en s0 m0 ar bl me co A ls hx hb hml hr hlk hin hown hts hK hN hA hP hD hS hl
  have hl : lv_has ls 1 [(0, .ref aF)] := hl
  have hown : s0.vm.findClass R_F = some m0.cls := hown
  refine lv_aload_n hx hb d_F_init_0 rfl (lv_at hl 0 rfl) ?_
  refine sw_objI hx hb hml hown hts wm_25 wm_18 (show Cond.code objectInit ⟨#[0xb1]⟩ 1 none ∈ BIG from wm_19) hl.1 d_F_init_1 (Nat.le_of_ble_eq_true rfl) (Nat.le_of_ble_eq_true rfl) ?_
  refine lv_aload_n hx hb d_F_init_4 rfl (lv_at hl 0 rfl) ?_
  refine lv_sipush (v := 240) hx hb d_F_init_5 (by decide) ?_
  refine va_newa (atype := .int) (ty := .int) (N' := 240) (a0 := (240, .inl (fun _ => 0))) hx hb (hts _ wm_37) rfl hK hP hD hS hA (fun _ => rfl) (by decide) (by decide) (by decide) (by decide) (by decide) d_F_init_8 (fun aB cB H hK2 hP hD hS => ?_)
  rw [sw_cA hK2] at hP hD
  refine va_putF (D := D) (ci := 1) (v := .ref aB) (ty := .array .int) (C := R_F) (T := T_F) (N := 4) hx hb hts in_F ty_F ty_F_ok nm_F hown hK hP hD hS 0 rfl rfl 0 (by decide) (hts _ wm_29) (fun _ h9 => h9) rfl hin rfl (ty_F_ok 0 (by decide)) rfl rfl (Nat.le_of_ble_eq_true rfl) d_F_init_10 (fun H locs hP hD hS => ?_)
  have hP : va_P D vwC [(aF, .inr (1, [.ref aB, .int 0, .int 0, .int 0])), (aB, .inl (cA, 240, .inl (fun _ => 0)))] H := hP
  have hD : va_D A [(aF, .inr (1, [.ref aB, .int 0, .int 0, .int 0])), (aB, .inl (cA, 240, .inl (fun _ => 0)))] := hD
  refine lv_aload_n hx hb d_F_init_13 rfl (lv_at hl 0 rfl) ?_
  refine va_get (D := D) (ci := 1) (v := .ref aB) (C := R_F) (T := T_F) (N := 4) hx hb hts in_F hown hK hP 0 rfl rfl 0 (by decide) (hts _ wm_29) (fun _ h9 => h9) rfl d_F_init_14 ?_
  refine lv_sipush (v := 255) hx hb d_F_init_17 (by decide) ?_
  refine sw_callFv (w := BW cA aB) (st := fun _ => 0) (wr := [(aF, .inr (1, [.ref aB, .int 0, .int 0, .int 0]))]) (rest := []) [1] [0] [.ref aB, .int 255] hx hb hml hown hts hK hN hA hP hD hS rfl rfl (by decide) (by decide) (by decide) (k_A_fillB l D cA aB (fun _ => 0) _) cw_F_15 ⟨Nat.le_of_ble_eq_true rfl, Nat.le_of_ble_eq_true rfl⟩ ⟨Nat.le_of_ble_eq_true rfl, Nat.le_of_ble_eq_true rfl⟩ hl.1 rfl rfl (Nat.le_of_ble_eq_true rfl) d_F_init_20 (fun u H locs hq hP hD hS => ?_)
  have hu : u = pfill (fun _ => 0) 0 240 := hq
  have hP : va_P D vwC [(aF, .inr (1, [.ref aB, .int 0, .int 0, .int 0])), (aB, .inl (cA, 240, .inl u))] H := hP
  have hD : va_D A [(aF, .inr (1, [.ref aB, .int 0, .int 0, .int 0])), (aB, .inl (cA, 240, .inl u))] := hD
  refine lv_aload_n hx hb d_F_init_23 rfl (lv_at hl 0 rfl) ?_
  refine lv_iconst (v := -1) hx hb d_F_init_24 (by decide) ?_
  refine va_put (D := D) (ci := 1) (v := .int (-1)) (ty := .int) (C := R_F) (T := T_F) (N := 4) hx hb hts in_F ty_F ty_F_ok nm_F hown hK hP hD hS 0 rfl rfl 1 (by decide) (hts _ wm_30) (fun _ h9 => h9) rfl (ty_F_ok 1 (by decide)) rfl rfl (Nat.le_of_ble_eq_true rfl) d_F_init_25 (fun H locs hP hD hS => ?_)
  refine lv_aload_n hx hb d_F_init_28 rfl (lv_at hl 0 rfl) ?_
  refine lv_iconst (v := 0) hx hb d_F_init_29 (by decide) ?_
  refine va_put (D := D) (ci := 1) (v := .int 0) (ty := .int) (C := R_F) (T := T_F) (N := 4) hx hb hts in_F ty_F ty_F_ok nm_F hown hK hP hD hS 0 rfl rfl 2 (by decide) (hts _ wm_31) (fun _ h9 => h9) rfl (ty_F_ok 2 (by decide)) rfl rfl (Nat.le_of_ble_eq_true rfl) d_F_init_30 (fun H locs hP hD hS => ?_)
  refine lv_aload_n hx hb d_F_init_33 rfl (lv_at hl 0 rfl) ?_
  refine lv_iconst (v := 0) hx hb d_F_init_34 (by decide) ?_
  refine va_put (D := D) (ci := 1) (v := .int 0) (ty := .int) (C := R_F) (T := T_F) (N := 4) hx hb hts in_F ty_F ty_F_ok nm_F hown hK hP hD hS 0 rfl rfl 3 (by decide) (hts _ wm_32) (fun _ h9 => h9) rfl (ty_F_ok 3 (by decide)) rfl rfl (Nat.le_of_ble_eq_true rfl) d_F_init_35 (fun H locs hP hD hS => ?_)
  have hP : va_P D vwC [(aF, .inr (1, [.ref aB, .int (-1), .int 0, .int 0])), (aB, .inl (cA, 240, .inl u))] H := hP
  have hD : va_D A [(aF, .inr (1, [.ref aB, .int (-1), .int 0, .int 0])), (aB, .inl (cA, 240, .inl u))] := hD
  rw [hu] at hP hD
  exact sw_vretK (u := aB) hx hb hr hlk hK hP hD hS d_F_init_38 trivial
def m_0 : Ms := (((pfill (fun _ => 0) 0 240, -1, 0, 0), false), (0, false, 0), 0, 0, 0, 0, 0, 0)
set_option maxHeartbeats 4000000 in
set_option maxRecDepth 100000 in
theorem k_M_init (l : Launch) (D : va_G) (cA : ClassId) (aM sz : Nat) : Ck l y_M_init b_M_init 2 { frames := 2, cells := 1, slots := 240, locals := 80 } D cA [(aM, .inr (4, [.int 0, .null, .int 0, .int 0, .int 0, .int 0, .int 0, .int 0, .int 0, .int 0, .int 0, .int 0, .int 0, .int 0]))] (fun aG : Nat => MW cA aM aG m_0) sz [.ref aM] (fun _ => True) 1 240 := by
  refine Ck.enter (by decide) rfl (Nat.le_of_ble_eq_true rfl) ?_
  intro pr en s0 m0 ar bl me co A ls hx hb hml hr hlk hin hown hts hK hN hA hP hD hS hl
  have hl : lv_has ls 2 [(0, .ref aM)] := hl
  have hown : s0.vm.findClass R_M = some m0.cls := hown
  refine lv_aload_n hx hb d_M_init_0 rfl (lv_at hl 0 rfl) ?_
  refine sw_objI hx hb hml hown hts wm_353 wm_18 (show Cond.code objectInit ⟨#[0xb1]⟩ 1 none ∈ BIG from wm_19) hl.1 d_M_init_1 (Nat.le_of_ble_eq_true rfl) (Nat.le_of_ble_eq_true rfl) ?_
  refine lv_aload_n hx hb d_M_init_4 rfl (lv_at hl 0 rfl) ?_
  refine lv_sipush (v := 240) hx hb d_M_init_5 (by decide) ?_
  refine va_newa (atype := .int) (ty := .int) (N' := 240) (a0 := (240, .inl (fun _ => 0))) hx hb (hts _ wm_37) rfl hK hP hD hS hA (fun _ => rfl) (by decide) (by decide) (by decide) (by decide) (by decide) d_M_init_8 (fun aG cB H hK2 hP hD hS => ?_)
  rw [sw_cA hK2] at hP hD
  refine va_put (D := D) (ci := 4) (v := .ref aG) (ty := .array .int) (C := R_M) (T := T_M) (N := 14) hx hb hts in_M ty_M ty_M_ok nm_M hown hK hP hD hS 0 rfl rfl 1 (by decide) (hts _ wm_355) (fun _ h9 => h9) rfl (ty_M_ok 1 (by decide)) rfl rfl (Nat.le_of_ble_eq_true rfl) d_M_init_10 (fun H locs hP hD hS => ?_)
  refine lv_aload_n hx hb d_M_init_13 rfl (lv_at hl 0 rfl) ?_
  refine lv_iconst (v := -1) hx hb d_M_init_14 (by decide) ?_
  refine va_put (D := D) (ci := 4) (v := .int (-1)) (ty := .int) (C := R_M) (T := T_M) (N := 14) hx hb hts in_M ty_M ty_M_ok nm_M hown hK hP hD hS 0 rfl rfl 4 (by decide) (hts _ wm_358) (fun _ h9 => h9) rfl (ty_M_ok 4 (by decide)) rfl rfl (Nat.le_of_ble_eq_true rfl) d_M_init_15 (fun H locs hP hD hS => ?_)
  have hP : va_P D vwC (MW cA aM aG (((fun _ => 0, -1, 0, 0), false), (0, false, 0), 0, 0, 0, 0, 0, 0)) H := hP
  have hD : va_D A (MW cA aM aG (((fun _ => 0, -1, 0, 0), false), (0, false, 0), 0, 0, 0, 0, 0, 0)) := hD
  refine lv_iconst (v := 0) hx hb d_M_init_18 (by decide) ?_
  refine lv_istore_n hx hb d_M_init_19 rfl hl (by decide) rfl (fun ls hl => ?_)
  have hl : lv_has ls 2 [(1, .int 0), (0, .ref aM)] := hl
  have loop : ∀ (d : Nat) (i : Nat) (f : Nat → Int32) (H : Heap) (locs : List Loc) (ls : Array Slot), 240 - i = d → i ≤ 240 → f = pfill (fun _ => 0) 0 i → lv_has ls 2 [(1, .int (nI i)), (0, .ref aM)] → va_P D vwC (MW cA aM aG (((f, -1, 0, 0), false), (0, false, 0), 0, 0, 0, 0, 0, 0)) H → va_D A (MW cA aM aG (((f, -1, 0, 0), false), (0, false, 0), 0, 0, 0, 0, 0, 0)) → va_S A s0.heap H locs → W pr l en { frames := 2, cells := 1, slots := 240, locals := 80 } s0 m0 ar bl me co H locs 1 240 (MQ bl (va_Qv (fun _ => True) (sw_B D cA A (fun aG : Nat => MW cA aM aG m_0)) A) ar s0 1 240 A) (F0 m0 20 ls []) := by
    intro d
    induction d using Nat.strongRecOn with
    | ind d ih =>
      intro i f H locs ls hd hi hF hl hP hD hS
      refine lv_iload_n hx hb d_M_init_20 rfl (lv_at hl 0 rfl) ?_
      refine lv_sipush (v := 240) hx hb d_M_init_21 (by decide) ?_
      refine sw_nc_ge (a := i) (b := 240) (tgt := 42) hx hb (by omega) (by omega) d_M_init_24 (by decide) (fun h24 => ?_) (fun h24 => ?_)
      · have h240 : i = 240 := by omega
        rw [hF, h240] at hP hD
        exact sw_vretK (u := aG) hx hb hr hlk hK hP hD hS d_M_init_42 trivial
      · refine lv_aload_n hx hb d_M_init_27 rfl (lv_at hl 1 rfl) ?_
        refine va_get (D := D) (ci := 4) (v := .ref aG) (C := R_M) (T := T_M) (N := 14) hx hb hts in_M hown hK hP 0 rfl rfl 1 (by decide) (hts _ wm_355) (fun _ h9 => h9) rfl d_M_init_28 ?_
        refine lv_iload_n hx hb d_M_init_31 rfl (lv_at hl 0 rfl) ?_
        refine lv_sipush (v := 255) hx hb d_M_init_32 (by decide) ?_
        refine sw_ast (n := i) (x := 255) (f := f) hx hb hK hP hD hS 1 0 rfl rfl (by omega) (by decide) d_M_init_35 (fun H locs hP hD hS => ?_)
        refine lv_iinc (k := 0) (v := nI (i + 1)) hx hb d_M_init_36 hl rfl (nI_1 _) (by decide) rfl (fun ls hl => ?_)
        have hl : lv_has ls 2 [(1, .int (nI (i + 1))), (0, .ref aM)] := hl
        refine lv_goto (tgt := 20) hx hb d_M_init_39 (by decide) ?_
        exact ih (240 - (i + 1)) (by omega) (i + 1) (upd f i 255) _ _ _ rfl (by omega) (by rw [hF]; exact pfill_s0 _ _) hl hP hD hS
  exact loop _ 0 (fun _ => 0) _ _ _ rfl (by omega) (pfill_0 _ _).symm hl hP hD hS
def s_0 : St := ((pfill (fun _ => 0) 0 240, -1, 0, 0), (false, 0), 0, 0, 0, 0, 0, 0)
set_option maxHeartbeats 4000000 in
set_option maxRecDepth 100000 in
theorem k_X_init (l : Launch) (D : va_G) (cA : ClassId) (aX sz : Nat) : Ck l y_X_init b_X_init 1 { frames := 4, cells := 4, slots := 252, locals := 160 } D cA [(aX, .inr (0, [.null, .null, .null, .int 0, .int 0]))] (fun u : Nat × Nat × Nat × Nat => CW cA aX u.1 u.2.1 u.2.2.1 u.2.2.2 s_0) sz [.ref aX] (fun _ => True) 4 252 := by
  refine Ck.enter (by decide) rfl (Nat.le_of_ble_eq_true rfl) ?_
  intro pr en s0 m0 ar bl me co A ls hx hb hml hr hlk hin hown hts hK hN hA hP hD hS hl
  have hl : lv_has ls 1 [(0, .ref aX)] := hl
  have hown : s0.vm.findClass R_X = some m0.cls := hown
  refine lv_aload_n hx hb d_X_init_0 rfl (lv_at hl 0 rfl) ?_
  refine sw_objI hx hb hml hown hts wm_17 wm_18 (show Cond.code objectInit ⟨#[0xb1]⟩ 1 none ∈ BIG from wm_19) hl.1 d_X_init_1 (Nat.le_of_ble_eq_true rfl) (Nat.le_of_ble_eq_true rfl) ?_
  refine lv_aload_n hx hb d_X_init_4 rfl (lv_at hl 0 rfl) ?_
  refine va_new (ci := 1) (fs := [.null, .int 0, .int 0, .int 0]) (C := R_F) (T := T_F) (N := 4) hx hb hts in_F ty_F ty_F_ok hown (hts _ wm_20) (hts _ wm_21) (hts _ wm_2) hK hP hD hS hA rfl (fun j hj => by match j, hj with
    | 0, _ => rfl
    | 1, _ => rfl
    | 2, _ => rfl
    | 3, _ => rfl
    | j + 4, hj => exact absurd hj (by omega)) (by decide) (by decide) d_X_init_5 (fun aF H hP hD hS => ?_)
  have hP : va_P D vwC [(aX, .inr (0, [.null, .null, .null, .int 0, .int 0])), (aF, .inr (1, [.null, .int 0, .int 0, .int 0]))] H := hP
  have hD : va_D A [(aX, .inr (0, [.null, .null, .null, .int 0, .int 0])), (aF, .inr (1, [.null, .int 0, .int 0, .int 0]))] := hD
  refine lv_dup hx hb d_X_init_8 rfl ?_
  refine sw_callI (w := (fun aB : Nat => [(aF, .inr (1, [.ref aB, .int (-1), .int 0, .int 0])), (aB, .inl (cA, 240, .inl (pfill (fun _ => 0) 0 240)))])) (wr := [(aX, .inr (0, [.null, .null, .null, .int 0, .int 0]))]) (rest := [.ref aF, .ref aX]) [1] [0] [] hx hb hml hown hts hK hN hA hP hD hS rfl rfl (by decide) (by decide) (by decide) (k_F_init l D cA aF _) cw_X_11 rfl rfl ⟨Nat.le_of_ble_eq_true rfl, Nat.le_of_ble_eq_true rfl⟩ ⟨Nat.le_of_ble_eq_true rfl, Nat.le_of_ble_eq_true rfl⟩ hl.1 rfl rfl (Nat.le_of_ble_eq_true rfl) d_X_init_9 (fun aB H locs hq hP hD hS => ?_)
  have hP : va_P D vwC [(aX, .inr (0, [.null, .null, .null, .int 0, .int 0])), (aF, .inr (1, [.ref aB, .int (-1), .int 0, .int 0])), (aB, .inl (cA, 240, .inl (pfill (fun _ => 0) 0 240)))] H := hP
  have hD : va_D A [(aX, .inr (0, [.null, .null, .null, .int 0, .int 0])), (aF, .inr (1, [.ref aB, .int (-1), .int 0, .int 0])), (aB, .inl (cA, 240, .inl (pfill (fun _ => 0) 0 240)))] := hD
  refine va_putF (D := D) (ci := 0) (v := .ref aF) (ty := .object "SwapLoader$Flash") (C := R_X) (T := T_X) (N := 5) hx hb hts in_X ty_X ty_X_ok nm_X hown hK hP hD hS 0 rfl rfl 0 (by decide) (hts _ wm_66) (fun _ h9 => h9) rfl hin rfl (ty_X_ok 0 (by decide)) rfl rfl (Nat.le_of_ble_eq_true rfl) d_X_init_12 (fun H locs hP hD hS => ?_)
  have hP : va_P D vwC [(aX, .inr (0, [.ref aF, .null, .null, .int 0, .int 0])), (aF, .inr (1, [.ref aB, .int (-1), .int 0, .int 0])), (aB, .inl (cA, 240, .inl (pfill (fun _ => 0) 0 240)))] H := hP
  have hD : va_D A [(aX, .inr (0, [.ref aF, .null, .null, .int 0, .int 0])), (aF, .inr (1, [.ref aB, .int (-1), .int 0, .int 0])), (aB, .inl (cA, 240, .inl (pfill (fun _ => 0) 0 240)))] := hD
  refine lv_aload_n hx hb d_X_init_15 rfl (lv_at hl 0 rfl) ?_
  refine va_new (ci := 2) (fs := [.null]) (C := R_L) (T := T_L) (N := 1) hx hb hts in_L ty_L ty_L_ok hown (hts _ wm_38) (hts _ wm_39) (hts _ wm_4) hK hP hD hS hA rfl (fun j hj => by match j, hj with
    | 0, _ => rfl
    | j + 1, hj => exact absurd hj (by omega)) (by decide) (by decide) d_X_init_16 (fun aL H hP hD hS => ?_)
  have hP : va_P D vwC [(aX, .inr (0, [.ref aF, .null, .null, .int 0, .int 0])), (aF, .inr (1, [.ref aB, .int (-1), .int 0, .int 0])), (aB, .inl (cA, 240, .inl (pfill (fun _ => 0) 0 240))), (aL, .inr (2, [.null]))] H := hP
  have hD : va_D A [(aX, .inr (0, [.ref aF, .null, .null, .int 0, .int 0])), (aF, .inr (1, [.ref aB, .int (-1), .int 0, .int 0])), (aB, .inl (cA, 240, .inl (pfill (fun _ => 0) 0 240))), (aL, .inr (2, [.null]))] := hD
  refine lv_dup hx hb d_X_init_19 rfl ?_
  refine lv_aload_n hx hb d_X_init_20 rfl (lv_at hl 0 rfl) ?_
  refine va_get (D := D) (ci := 0) (v := .ref aF) (C := R_X) (T := T_X) (N := 5) hx hb hts in_X hown hK hP 0 rfl rfl 0 (by decide) (hts _ wm_66) (fun _ h9 => h9) rfl d_X_init_21 ?_
  refine sw_callI (w := (fun v : Value => [(aL, .inr (2, [v]))])) (wr := [(aX, .inr (0, [.ref aF, .null, .null, .int 0, .int 0])), (aF, .inr (1, [.ref aB, .int (-1), .int 0, .int 0])), (aB, .inl (cA, 240, .inl (pfill (fun _ => 0) 0 240)))]) (rest := [.ref aL, .ref aX]) [3] [0, 1, 2] [.ref aF] hx hb hml hown hts hK hN hA hP hD hS rfl rfl (by decide) (by decide) (by decide) (k_L_init l D cA aL aF _) cw_X_18 rfl rfl ⟨Nat.le_of_ble_eq_true rfl, Nat.le_of_ble_eq_true rfl⟩ ⟨Nat.le_of_ble_eq_true rfl, Nat.le_of_ble_eq_true rfl⟩ hl.1 rfl rfl (Nat.le_of_ble_eq_true rfl) d_X_init_24 (fun v H locs hq hP hD hS => ?_)
  have hv : v = Value.ref aF := hq
  rw [hv] at hP hD
  have hP : va_P D vwC [(aX, .inr (0, [.ref aF, .null, .null, .int 0, .int 0])), (aF, .inr (1, [.ref aB, .int (-1), .int 0, .int 0])), (aB, .inl (cA, 240, .inl (pfill (fun _ => 0) 0 240))), (aL, .inr (2, [.ref aF]))] H := hP
  have hD : va_D A [(aX, .inr (0, [.ref aF, .null, .null, .int 0, .int 0])), (aF, .inr (1, [.ref aB, .int (-1), .int 0, .int 0])), (aB, .inl (cA, 240, .inl (pfill (fun _ => 0) 0 240))), (aL, .inr (2, [.ref aF]))] := hD
  refine va_putF (D := D) (ci := 0) (v := .ref aL) (ty := .object "SwapLoader$Loader") (C := R_X) (T := T_X) (N := 5) hx hb hts in_X ty_X ty_X_ok nm_X hown hK hP hD hS 0 rfl rfl 1 (by decide) (hts _ wm_67) (fun _ h9 => h9) rfl hin rfl (ty_X_ok 1 (by decide)) rfl rfl (Nat.le_of_ble_eq_true rfl) d_X_init_27 (fun H locs hP hD hS => ?_)
  have hP : va_P D vwC [(aX, .inr (0, [.ref aF, .ref aL, .null, .int 0, .int 0])), (aF, .inr (1, [.ref aB, .int (-1), .int 0, .int 0])), (aB, .inl (cA, 240, .inl (pfill (fun _ => 0) 0 240))), (aL, .inr (2, [.ref aF]))] H := hP
  have hD : va_D A [(aX, .inr (0, [.ref aF, .ref aL, .null, .int 0, .int 0])), (aF, .inr (1, [.ref aB, .int (-1), .int 0, .int 0])), (aB, .inl (cA, 240, .inl (pfill (fun _ => 0) 0 240))), (aL, .inr (2, [.ref aF]))] := hD
  refine lv_aload_n hx hb d_X_init_30 rfl (lv_at hl 0 rfl) ?_
  refine va_new (ci := 3) (fs := [.null, .int 0, .int 0, .int 0, .int 0, .int 0, .int 0]) (C := R_P) (T := T_P) (N := 7) hx hb hts in_P ty_P ty_P_ok hown (hts _ wm_46) (hts _ wm_47) (hts _ wm_5) hK hP hD hS hA rfl (fun j hj => by match j, hj with
    | 0, _ => rfl
    | 1, _ => rfl
    | 2, _ => rfl
    | 3, _ => rfl
    | 4, _ => rfl
    | 5, _ => rfl
    | 6, _ => rfl
    | j + 7, hj => exact absurd hj (by omega)) (by decide) (by decide) d_X_init_31 (fun aP H hP hD hS => ?_)
  have hP : va_P D vwC [(aX, .inr (0, [.ref aF, .ref aL, .null, .int 0, .int 0])), (aF, .inr (1, [.ref aB, .int (-1), .int 0, .int 0])), (aB, .inl (cA, 240, .inl (pfill (fun _ => 0) 0 240))), (aL, .inr (2, [.ref aF])), (aP, .inr (3, [.null, .int 0, .int 0, .int 0, .int 0, .int 0, .int 0]))] H := hP
  have hD : va_D A [(aX, .inr (0, [.ref aF, .ref aL, .null, .int 0, .int 0])), (aF, .inr (1, [.ref aB, .int (-1), .int 0, .int 0])), (aB, .inl (cA, 240, .inl (pfill (fun _ => 0) 0 240))), (aL, .inr (2, [.ref aF])), (aP, .inr (3, [.null, .int 0, .int 0, .int 0, .int 0, .int 0, .int 0]))] := hD
  refine lv_dup hx hb d_X_init_34 rfl ?_
  refine lv_aload_n hx hb d_X_init_35 rfl (lv_at hl 0 rfl) ?_
  refine va_get (D := D) (ci := 0) (v := .ref aF) (C := R_X) (T := T_X) (N := 5) hx hb hts in_X hown hK hP 0 rfl rfl 0 (by decide) (hts _ wm_66) (fun _ h9 => h9) rfl d_X_init_36 ?_
  refine sw_callI (w := (fun v : Value => [(aP, .inr (3, [v, .int 0, .int 0, .int 0, .int 0, .int 0, .int 0]))])) (wr := [(aX, .inr (0, [.ref aF, .ref aL, .null, .int 0, .int 0])), (aF, .inr (1, [.ref aB, .int (-1), .int 0, .int 0])), (aB, .inl (cA, 240, .inl (pfill (fun _ => 0) 0 240))), (aL, .inr (2, [.ref aF]))]) (rest := [.ref aP, .ref aX]) [4] [0, 1, 2, 3] [.ref aF] hx hb hml hown hts hK hN hA hP hD hS rfl rfl (by decide) (by decide) (by decide) (k_P_init l D cA aP aF _) cw_X_27 rfl rfl ⟨Nat.le_of_ble_eq_true rfl, Nat.le_of_ble_eq_true rfl⟩ ⟨Nat.le_of_ble_eq_true rfl, Nat.le_of_ble_eq_true rfl⟩ hl.1 rfl rfl (Nat.le_of_ble_eq_true rfl) d_X_init_39 (fun v2 H locs hq hP hD hS => ?_)
  have hv2 : v2 = Value.ref aF := hq
  rw [hv2] at hP hD
  have hP : va_P D vwC [(aX, .inr (0, [.ref aF, .ref aL, .null, .int 0, .int 0])), (aF, .inr (1, [.ref aB, .int (-1), .int 0, .int 0])), (aB, .inl (cA, 240, .inl (pfill (fun _ => 0) 0 240))), (aL, .inr (2, [.ref aF])), (aP, .inr (3, [.ref aF, .int 0, .int 0, .int 0, .int 0, .int 0, .int 0]))] H := hP
  have hD : va_D A [(aX, .inr (0, [.ref aF, .ref aL, .null, .int 0, .int 0])), (aF, .inr (1, [.ref aB, .int (-1), .int 0, .int 0])), (aB, .inl (cA, 240, .inl (pfill (fun _ => 0) 0 240))), (aL, .inr (2, [.ref aF])), (aP, .inr (3, [.ref aF, .int 0, .int 0, .int 0, .int 0, .int 0, .int 0]))] := hD
  refine va_putF (D := D) (ci := 0) (v := .ref aP) (ty := .object "SwapLoader$Patch") (C := R_X) (T := T_X) (N := 5) hx hb hts in_X ty_X ty_X_ok nm_X hown hK hP hD hS 0 rfl rfl 2 (by decide) (hts _ wm_68) (fun _ h9 => h9) rfl hin rfl (ty_X_ok 2 (by decide)) rfl rfl (Nat.le_of_ble_eq_true rfl) d_X_init_42 (fun H locs hP hD hS => ?_)
  have hP : va_P D vwC [(aX, .inr (0, [.ref aF, .ref aL, .ref aP, .int 0, .int 0])), (aF, .inr (1, [.ref aB, .int (-1), .int 0, .int 0])), (aB, .inl (cA, 240, .inl (pfill (fun _ => 0) 0 240))), (aL, .inr (2, [.ref aF])), (aP, .inr (3, [.ref aF, .int 0, .int 0, .int 0, .int 0, .int 0, .int 0]))] H := hP
  have hD : va_D A [(aX, .inr (0, [.ref aF, .ref aL, .ref aP, .int 0, .int 0])), (aF, .inr (1, [.ref aB, .int (-1), .int 0, .int 0])), (aB, .inl (cA, 240, .inl (pfill (fun _ => 0) 0 240))), (aL, .inr (2, [.ref aF])), (aP, .inr (3, [.ref aF, .int 0, .int 0, .int 0, .int 0, .int 0, .int 0]))] := hD
  refine lv_aload_n hx hb d_X_init_45 rfl (lv_at hl 0 rfl) ?_
  refine lv_iconst (v := 0) hx hb d_X_init_46 (by decide) ?_
  refine va_put (D := D) (ci := 0) (v := .int 0) (ty := .boolean) (C := R_X) (T := T_X) (N := 5) hx hb hts in_X ty_X ty_X_ok nm_X hown hK hP hD hS 0 rfl rfl 3 (by decide) (hts _ wm_69) (fun _ h9 => h9) rfl (ty_X_ok 3 (by decide)) rfl rfl (Nat.le_of_ble_eq_true rfl) d_X_init_47 (fun H locs hP hD hS => ?_)
  refine lv_aload_n hx hb d_X_init_50 rfl (lv_at hl 0 rfl) ?_
  refine lv_iconst (v := 0) hx hb d_X_init_51 (by decide) ?_
  refine va_put (D := D) (ci := 0) (v := .int 0) (ty := .int) (C := R_X) (T := T_X) (N := 5) hx hb hts in_X ty_X ty_X_ok nm_X hown hK hP hD hS 0 rfl rfl 4 (by decide) (hts _ wm_70) (fun _ h9 => h9) rfl (ty_X_ok 4 (by decide)) rfl rfl (Nat.le_of_ble_eq_true rfl) d_X_init_52 (fun H locs hP hD hS => ?_)
  exact sw_vretK (u := (aF, aB, aL, aP)) hx hb hr hlk hK hP hD hS d_X_init_55 trivial
