/-! 14.factory: by program (wip/whole/src/gen.py) out of the bytecode and the specs. -/
theorem pfill_s0 (f : Nat → Int32) (i : Nat) : upd (pfill f 0 i) i 255 = pfill f 0 (i + 1) := by
  have h := pfill_s f 0 i
  rw [Nat.zero_add] at h
  exact h
theorem d_A_fill_0 : decode b_A_fill 0 = .ok (.iconst 0, 1) := by decide +kernel
theorem d_A_fill_1 : decode b_A_fill 1 = .ok (.istore_n 2, 1) := by decide +kernel
theorem d_A_fill_2 : decode b_A_fill 2 = .ok (.aload_n 0, 1) := by decide +kernel
theorem d_A_fill_3 : decode b_A_fill 3 = .ok (.arraylength, 1) := by decide +kernel
theorem d_A_fill_4 : decode b_A_fill 4 = .ok (.istore_n 3, 1) := by decide +kernel
theorem d_A_fill_5 : decode b_A_fill 5 = .ok (.iload_n 2, 1) := by decide +kernel
theorem d_A_fill_6 : decode b_A_fill 6 = .ok (.iload_n 3, 1) := by decide +kernel
theorem d_A_fill_7 : decode b_A_fill 7 = .ok (.if_icmp .ge 13, 3) := by decide +kernel
theorem d_A_fill_10 : decode b_A_fill 10 = .ok (.aload_n 0, 1) := by decide +kernel
theorem d_A_fill_11 : decode b_A_fill 11 = .ok (.iload_n 2, 1) := by decide +kernel
theorem d_A_fill_12 : decode b_A_fill 12 = .ok (.iload_n 1, 1) := by decide +kernel
theorem d_A_fill_13 : decode b_A_fill 13 = .ok (.iastore, 1) := by decide +kernel
theorem d_A_fill_14 : decode b_A_fill 14 = .ok (.iinc 2 1, 3) := by decide +kernel
theorem d_A_fill_17 : decode b_A_fill 17 = .ok (.goto (-12), 3) := by decide +kernel
theorem d_A_fill_20 : decode b_A_fill 20 = .ok (.return_, 1) := by decide +kernel
theorem d_F_reset_0 : decode b_F_reset 0 = .ok (.aload_n 0, 1) := by decide +kernel
theorem d_F_reset_1 : decode b_F_reset 1 = .ok (.getfield 9, 3) := by decide +kernel
theorem d_F_reset_4 : decode b_F_reset 4 = .ok (.sipush 255, 3) := by decide +kernel
theorem d_F_reset_7 : decode b_F_reset 7 = .ok (.invokestatic 15, 3) := by decide +kernel
theorem d_F_reset_10 : decode b_F_reset 10 = .ok (.return_, 1) := by decide +kernel
theorem d_F_placeFactoryImage_0 : decode b_F_placeFactoryImage 0 = .ok (.iload_n 3, 1) := by decide +kernel
theorem d_F_placeFactoryImage_1 : decode b_F_placeFactoryImage 1 = .ok (.istore 4, 2) := by decide +kernel
theorem d_F_placeFactoryImage_3 : decode b_F_placeFactoryImage 3 = .ok (.iconst 4, 1) := by decide +kernel
theorem d_F_placeFactoryImage_4 : decode b_F_placeFactoryImage 4 = .ok (.istore 5, 2) := by decide +kernel
theorem d_F_placeFactoryImage_6 : decode b_F_placeFactoryImage 6 = .ok (.iload 5, 2) := by decide +kernel
theorem d_F_placeFactoryImage_8 : decode b_F_placeFactoryImage 8 = .ok (.iload_n 2, 1) := by decide +kernel
theorem d_F_placeFactoryImage_9 : decode b_F_placeFactoryImage 9 = .ok (.if_icmp .ge 38, 3) := by decide +kernel
theorem d_F_placeFactoryImage_12 : decode b_F_placeFactoryImage 12 = .ok (.iload 4, 2) := by decide +kernel
theorem d_F_placeFactoryImage_14 : decode b_F_placeFactoryImage 14 = .ok (.ldc 31, 2) := by decide +kernel
theorem d_F_placeFactoryImage_16 : decode b_F_placeFactoryImage 16 = .ok (.imul, 1) := by decide +kernel
theorem d_F_placeFactoryImage_17 : decode b_F_placeFactoryImage 17 = .ok (.sipush 12345, 3) := by decide +kernel
theorem d_F_placeFactoryImage_20 : decode b_F_placeFactoryImage 20 = .ok (.iadd, 1) := by decide +kernel
theorem d_F_placeFactoryImage_21 : decode b_F_placeFactoryImage 21 = .ok (.istore 4, 2) := by decide +kernel
theorem d_F_placeFactoryImage_23 : decode b_F_placeFactoryImage 23 = .ok (.aload_n 0, 1) := by decide +kernel
theorem d_F_placeFactoryImage_24 : decode b_F_placeFactoryImage 24 = .ok (.getfield 9, 3) := by decide +kernel
theorem d_F_placeFactoryImage_27 : decode b_F_placeFactoryImage 27 = .ok (.iconst 0, 1) := by decide +kernel
theorem d_F_placeFactoryImage_28 : decode b_F_placeFactoryImage 28 = .ok (.iload 5, 2) := by decide +kernel
theorem d_F_placeFactoryImage_30 : decode b_F_placeFactoryImage 30 = .ok (.iadd, 1) := by decide +kernel
theorem d_F_placeFactoryImage_31 : decode b_F_placeFactoryImage 31 = .ok (.iload 4, 2) := by decide +kernel
theorem d_F_placeFactoryImage_33 : decode b_F_placeFactoryImage 33 = .ok (.bipush 16, 2) := by decide +kernel
theorem d_F_placeFactoryImage_35 : decode b_F_placeFactoryImage 35 = .ok (.iushr, 1) := by decide +kernel
theorem d_F_placeFactoryImage_36 : decode b_F_placeFactoryImage 36 = .ok (.sipush 255, 3) := by decide +kernel
theorem d_F_placeFactoryImage_39 : decode b_F_placeFactoryImage 39 = .ok (.iand, 1) := by decide +kernel
theorem d_F_placeFactoryImage_40 : decode b_F_placeFactoryImage 40 = .ok (.iastore, 1) := by decide +kernel
theorem d_F_placeFactoryImage_41 : decode b_F_placeFactoryImage 41 = .ok (.iinc 5 1, 3) := by decide +kernel
theorem d_F_placeFactoryImage_44 : decode b_F_placeFactoryImage 44 = .ok (.goto (-38), 3) := by decide +kernel
theorem d_F_placeFactoryImage_47 : decode b_F_placeFactoryImage 47 = .ok (.aload_n 0, 1) := by decide +kernel
theorem d_F_placeFactoryImage_48 : decode b_F_placeFactoryImage 48 = .ok (.getfield 9, 3) := by decide +kernel
theorem d_F_placeFactoryImage_51 : decode b_F_placeFactoryImage 51 = .ok (.iconst 3, 1) := by decide +kernel
theorem d_F_placeFactoryImage_52 : decode b_F_placeFactoryImage 52 = .ok (.aload_n 0, 1) := by decide +kernel
theorem d_F_placeFactoryImage_53 : decode b_F_placeFactoryImage 53 = .ok (.iconst 0, 1) := by decide +kernel
theorem d_F_placeFactoryImage_54 : decode b_F_placeFactoryImage 54 = .ok (.iload_n 1, 1) := by decide +kernel
theorem d_F_placeFactoryImage_55 : decode b_F_placeFactoryImage 55 = .ok (.iload_n 2, 1) := by decide +kernel
theorem d_F_placeFactoryImage_56 : decode b_F_placeFactoryImage 56 = .ok (.invokevirtual 32, 3) := by decide +kernel
theorem d_F_placeFactoryImage_59 : decode b_F_placeFactoryImage 59 = .ok (.iastore, 1) := by decide +kernel
theorem d_F_placeFactoryImage_60 : decode b_F_placeFactoryImage 60 = .ok (.aload_n 0, 1) := by decide +kernel
theorem d_F_placeFactoryImage_61 : decode b_F_placeFactoryImage 61 = .ok (.getfield 9, 3) := by decide +kernel
theorem d_F_placeFactoryImage_64 : decode b_F_placeFactoryImage 64 = .ok (.iconst 2, 1) := by decide +kernel
theorem d_F_placeFactoryImage_65 : decode b_F_placeFactoryImage 65 = .ok (.iload_n 2, 1) := by decide +kernel
theorem d_F_placeFactoryImage_66 : decode b_F_placeFactoryImage 66 = .ok (.iastore, 1) := by decide +kernel
theorem d_F_placeFactoryImage_67 : decode b_F_placeFactoryImage 67 = .ok (.aload_n 0, 1) := by decide +kernel
theorem d_F_placeFactoryImage_68 : decode b_F_placeFactoryImage 68 = .ok (.getfield 9, 3) := by decide +kernel
theorem d_F_placeFactoryImage_71 : decode b_F_placeFactoryImage 71 = .ok (.iconst 1, 1) := by decide +kernel
theorem d_F_placeFactoryImage_72 : decode b_F_placeFactoryImage 72 = .ok (.iload_n 1, 1) := by decide +kernel
theorem d_F_placeFactoryImage_73 : decode b_F_placeFactoryImage 73 = .ok (.iastore, 1) := by decide +kernel
theorem d_F_placeFactoryImage_74 : decode b_F_placeFactoryImage 74 = .ok (.aload_n 0, 1) := by decide +kernel
theorem d_F_placeFactoryImage_75 : decode b_F_placeFactoryImage 75 = .ok (.getfield 9, 3) := by decide +kernel
theorem d_F_placeFactoryImage_78 : decode b_F_placeFactoryImage 78 = .ok (.iconst 0, 1) := by decide +kernel
theorem d_F_placeFactoryImage_79 : decode b_F_placeFactoryImage 79 = .ok (.sipush 165, 3) := by decide +kernel
theorem d_F_placeFactoryImage_82 : decode b_F_placeFactoryImage 82 = .ok (.iastore, 1) := by decide +kernel
theorem d_F_placeFactoryImage_83 : decode b_F_placeFactoryImage 83 = .ok (.return_, 1) := by decide +kernel
theorem d_X_factory_0 : decode b_X_factory 0 = .ok (.iload_n 1, 1) := by decide +kernel
theorem d_X_factory_1 : decode b_X_factory 1 = .ok (.iload_n 2, 1) := by decide +kernel
theorem d_X_factory_2 : decode b_X_factory 2 = .ok (.invokestatic 40, 3) := by decide +kernel
theorem d_X_factory_5 : decode b_X_factory 5 = .ok (.ifCond .ne 5, 3) := by decide +kernel
theorem d_X_factory_8 : decode b_X_factory 8 = .ok (.iconst 0, 1) := by decide +kernel
theorem d_X_factory_9 : decode b_X_factory 9 = .ok (.ireturn, 1) := by decide +kernel
theorem d_X_factory_10 : decode b_X_factory 10 = .ok (.aload_n 0, 1) := by decide +kernel
theorem d_X_factory_11 : decode b_X_factory 11 = .ok (.invokevirtual 44, 3) := by decide +kernel
theorem d_X_factory_14 : decode b_X_factory 14 = .ok (.aload_n 0, 1) := by decide +kernel
theorem d_X_factory_15 : decode b_X_factory 15 = .ok (.getfield 12, 3) := by decide +kernel
theorem d_X_factory_18 : decode b_X_factory 18 = .ok (.invokevirtual 47, 3) := by decide +kernel
theorem d_X_factory_21 : decode b_X_factory 21 = .ok (.aload_n 0, 1) := by decide +kernel
theorem d_X_factory_22 : decode b_X_factory 22 = .ok (.getfield 12, 3) := by decide +kernel
theorem d_X_factory_25 : decode b_X_factory 25 = .ok (.invokevirtual 50, 3) := by decide +kernel
theorem d_X_factory_28 : decode b_X_factory 28 = .ok (.aload_n 0, 1) := by decide +kernel
theorem d_X_factory_29 : decode b_X_factory 29 = .ok (.getfield 12, 3) := by decide +kernel
theorem d_X_factory_32 : decode b_X_factory 32 = .ok (.iload_n 1, 1) := by decide +kernel
theorem d_X_factory_33 : decode b_X_factory 33 = .ok (.iload_n 2, 1) := by decide +kernel
theorem d_X_factory_34 : decode b_X_factory 34 = .ok (.iload_n 3, 1) := by decide +kernel
theorem d_X_factory_35 : decode b_X_factory 35 = .ok (.invokevirtual 53, 3) := by decide +kernel
theorem d_X_factory_38 : decode b_X_factory 38 = .ok (.iconst 1, 1) := by decide +kernel
theorem d_X_factory_39 : decode b_X_factory 39 = .ok (.ireturn, 1) := by decide +kernel
set_option maxHeartbeats 4000000 in
set_option maxRecDepth 100000 in
theorem k_A_fill (l : Launch) (D : va_G) (cA : ClassId) (aX aF aB aL aP : Nat) (st : St) (sz : Nat) : Cv l y_A_fill b_A_fill 4 none 0 D cA (CW cA aX aF aB aL aP) st sz [.ref aB, .int (255 : Int32)] (fun u => u = ((pfill st.1.1 0 240, st.1.2), st.2)) := by
  refine Cv.enter (by decide) (Nat.le_of_ble_eq_true rfl) ?_
  intro pr en s0 m0 ar bl me co A ls hx hb hml hr hlk hown hts hK hN hA hP hD hS hl
  have hl : lv_has ls 4 [(0, .ref aB), (1, .int (255 : Int32))] := hl
  have hown : s0.vm.findClass R_A = some m0.cls := hown
  refine lv_iconst (v := 0) hx hb d_A_fill_0 (by decide) ?_
  refine lv_istore_n hx hb d_A_fill_1 rfl hl (by decide) rfl (fun ls hl => ?_)
  have hl : lv_has ls 4 [(2, .int (0 : Int32)), (0, .ref aB), (1, .int (255 : Int32))] := hl
  refine lv_aload_n hx hb d_A_fill_2 rfl (lv_at hl 1 rfl) ?_
  refine va_alen (v := nI 240) hx hb hK hP 2 0 rfl rfl rfl d_A_fill_3 ?_
  refine lv_istore_n hx hb d_A_fill_4 rfl hl (by decide) rfl (fun ls hl => ?_)
  have hl : lv_has ls 4 [(3, .int (nI 240)), (2, .int (0 : Int32)), (0, .ref aB), (1, .int (255 : Int32))] := hl
  have loop : ∀ (d : Nat) (i : Nat) (u : St) (H : Heap) (locs : List Loc) (ls : Array Slot), 240 - i = d → i ≤ 240 → u.1.1 = pfill st.1.1 0 i → u.1.2 = st.1.2 → u.2 = st.2 → lv_has ls 4 [(2, .int (nI i)), (3, .int (nI 240)), (0, .ref aB), (1, .int (255 : Int32))] → va_P D vwC (CW cA aX aF aB aL aP u) H → va_D A (CW cA aX aF aB aL aP u) → va_S A s0.heap H locs → W pr l en (lvr 0) s0 m0 ar bl me co H locs 0 0 (MQ bl (va_Qv (fun u => u = ((pfill st.1.1 0 240, st.1.2), st.2)) (sw_B D cA A (CW cA aX aF aB aL aP)) A) ar s0 0 0 A) (F0 m0 5 ls []) := by
    intro d
    induction d using Nat.strongRecOn with
    | ind d ih =>
      intro i u H locs ls hd hi hF hG hE hl hP hD hS
      refine lv_iload_n hx hb d_A_fill_5 rfl (lv_at hl 0 rfl) ?_
      refine lv_iload_n hx hb d_A_fill_6 rfl (lv_at hl 1 rfl) ?_
      refine sw_nc_ge (a := i) (b := 240) (tgt := 20) hx hb (by omega) (by omega) d_A_fill_7 (by decide) (fun h7 => ?_) (fun h7 => ?_)
      · skip
        refine sw_vret (u := u) hx hb hr hlk hK hP hD hS d_A_fill_20 ?_
        have hi : i = 240 := by omega
        subst hi
        exact Prod.ext (Prod.ext hF hG) hE
      · skip
        refine lv_aload_n hx hb d_A_fill_10 rfl (lv_at hl 2 rfl) ?_
        refine lv_iload_n hx hb d_A_fill_11 rfl (lv_at hl 0 rfl) ?_
        refine lv_iload_n hx hb d_A_fill_12 rfl (lv_at hl 3 rfl) ?_
        refine sw_ast (n := i) (x := (255 : Int32)) (f := u.1.1) hx hb hK hP hD hS 2 0 rfl rfl (by omega) (by decide) d_A_fill_13 (fun H locs hP hD hS => ?_)
        have hP : va_P D vwC (CW cA aX aF aB aL aP ((upd u.1.1 i (255 : Int32), u.1.2.1, u.1.2.2.1, u.1.2.2.2), (u.2.1.1, u.2.1.2), (u.2.2.1, u.2.2.2.1, u.2.2.2.2.1, u.2.2.2.2.2.1, u.2.2.2.2.2.2.1, u.2.2.2.2.2.2.2))) H := hP
        have hD : va_D A (CW cA aX aF aB aL aP ((upd u.1.1 i (255 : Int32), u.1.2.1, u.1.2.2.1, u.1.2.2.2), (u.2.1.1, u.2.1.2), (u.2.2.1, u.2.2.2.1, u.2.2.2.2.1, u.2.2.2.2.2.1, u.2.2.2.2.2.2.1, u.2.2.2.2.2.2.2))) := hD
        refine lv_iinc (k := 0) (v := nI (i + 1)) hx hb d_A_fill_14 hl rfl (nI_1 _) (by decide) rfl (fun ls hl => ?_)
        have hl : lv_has ls 4 [(2, .int (nI (i + 1))), (3, .int (nI 240)), (0, .ref aB), (1, .int (255 : Int32))] := hl
        refine lv_goto (tgt := 5) hx hb d_A_fill_17 (by decide) ?_
        exact ih (240 - (i + 1)) (by omega) (i + 1) ((upd u.1.1 i (255 : Int32), u.1.2.1, u.1.2.2.1, u.1.2.2.2), (u.2.1.1, u.2.1.2), (u.2.2.1, u.2.2.2.1, u.2.2.2.2.1, u.2.2.2.2.2.1, u.2.2.2.2.2.2.1, u.2.2.2.2.2.2.2)) _ _ _ rfl (by omega) (by rw [hF]; exact pfill_s0 _ _) hG hE (lv_sub hl [0, 1, 2, 3] rfl) hP hD hS
  exact loop _ 0 st _ _ _ rfl (by omega) (pfill_0 _ _).symm rfl rfl (lv_sub hl [1, 0, 2, 3] rfl) hP hD hS
set_option maxHeartbeats 4000000 in
set_option maxRecDepth 100000 in
theorem k_F_reset (l : Launch) (D : va_G) (cA : ClassId) (aX aF aB aL aP : Nat) (st : St) (sz : Nat) : Cv l y_F_reset b_F_reset 1 none 1 D cA (CW cA aX aF aB aL aP) st sz [.ref aF] (fun u => u = ((pfill st.1.1 0 240, st.1.2), st.2)) := by
  refine Cv.enter (by decide) (Nat.le_of_ble_eq_true rfl) ?_
  intro pr en s0 m0 ar bl me co A ls hx hb hml hr hlk hown hts hK hN hA hP hD hS hl
  have hl : lv_has ls 1 [(0, .ref aF)] := hl
  have hown : s0.vm.findClass R_F = some m0.cls := hown
  refine lv_aload_n hx hb d_F_reset_0 rfl (lv_at hl 0 rfl) ?_
  refine va_get (D := D) (ci := 1) (v := .ref aB) (C := R_F) (T := T_F) (N := 4) hx hb hts in_F hown hK hP 1 rfl rfl 0 (by decide) (hts _ wm_29) (fun _ h9 => h9) rfl d_F_reset_1 ?_
  refine lv_sipush (v := 255) hx hb d_F_reset_4 (by decide) ?_
  refine sw_callSv (rest := []) [.ref aB, .int (255 : Int32)] hx hb hml hown hts hK hN hA hP hD hS (k_A_fill l D cA aX aF aB aL aP st _) cw_F_15 ⟨Nat.le_of_ble_eq_true rfl, Nat.le_of_ble_eq_true rfl⟩ hl.1 rfl rfl (Nat.le_of_ble_eq_true rfl) d_F_reset_7 (fun u7 H locs hq7 hP hD hS => ?_)
  have hu7 : u7 = ((pfill st.1.1 0 240, st.1.2), st.2) := hq7
  refine sw_vret (u := u7) hx hb hr hlk hK hP hD hS d_F_reset_10 ?_
  exact hu7
set_option maxHeartbeats 4000000 in
set_option maxRecDepth 100000 in
theorem k_F_placeFactoryImage (l : Launch) (D : va_G) (cA : ClassId) (aX aF aB aL aP : Nat) (st : St) (sz : Nat) (v : Int32) (n : Nat) (sd : Int32) (h8 : 8 ≤ n) (h96 : n ≤ 96) : Cv l y_F_placeFactoryImage b_F_placeFactoryImage 6 none 1 D cA (CW cA aX aF aB aL aP) st sz [.ref aF, .int v, .int (nI n), .int sd] (fun u => u = ((pfacim st.1.1 v n sd, st.1.2), st.2)) := by
  refine Cv.enter (by decide) (Nat.le_of_ble_eq_true rfl) ?_
  intro pr en s0 m0 ar bl me co A ls hx hb hml hr hlk hown hts hK hN hA hP hD hS hl
  have hl : lv_has ls 6 [(0, .ref aF), (1, .int v), (2, .int (nI n)), (3, .int sd)] := hl
  have hown : s0.vm.findClass R_F = some m0.cls := hown
  refine lv_iload_n hx hb d_F_placeFactoryImage_0 rfl (lv_at hl 3 rfl) ?_
  refine lv_istore hx hb d_F_placeFactoryImage_1 hl (by decide) rfl (fun ls hl => ?_)
  have hl : lv_has ls 6 [(4, .int sd), (0, .ref aF), (1, .int v), (2, .int (nI n)), (3, .int sd)] := hl
  refine lv_iconst (v := 4) hx hb d_F_placeFactoryImage_3 (by decide) ?_
  refine lv_istore hx hb d_F_placeFactoryImage_4 hl (by decide) rfl (fun ls hl => ?_)
  have hl : lv_has ls 6 [(5, .int (4 : Int32)), (4, .int sd), (0, .ref aF), (1, .int v), (2, .int (nI n)), (3, .int sd)] := hl
  have loop : ∀ (d : Nat) (i : Nat) (x : Int32) (u : St) (H : Heap) (locs : List Loc) (ls : Array Slot), n - i = d → i ≤ n → pfac u.1.1 (n - i) i x = pfac st.1.1 (n - 4) 4 sd → u.1.2 = st.1.2 → u.2 = st.2 → lv_has ls 6 [(5, .int (nI i)), (4, .int x), (0, .ref aF), (1, .int v), (2, .int (nI n)), (3, .int sd)] → va_P D vwC (CW cA aX aF aB aL aP u) H → va_D A (CW cA aX aF aB aL aP u) → va_S A s0.heap H locs → W pr l en (lvr 1) s0 m0 ar bl me co H locs 0 0 (MQ bl (va_Qv (fun u => u = ((pfacim st.1.1 v n sd, st.1.2), st.2)) (sw_B D cA A (CW cA aX aF aB aL aP)) A) ar s0 0 0 A) (F0 m0 6 ls []) := by
    intro d
    induction d using Nat.strongRecOn with
    | ind d ih =>
      intro i x u H locs ls hd hi hT hG hE hl hP hD hS
      refine lv_iload hx hb d_F_placeFactoryImage_6 (lv_at hl 0 rfl) ?_
      refine lv_iload_n hx hb d_F_placeFactoryImage_8 rfl (lv_at hl 4 rfl) ?_
      refine sw_nc_ge (a := i) (b := n) (tgt := 47) hx hb (by omega) (by omega) d_F_placeFactoryImage_9 (by decide) (fun h9 => ?_) (fun h9 => ?_)
      · skip
        refine lv_aload_n hx hb d_F_placeFactoryImage_47 rfl (lv_at hl 2 rfl) ?_
        refine va_get (D := D) (ci := 1) (v := .ref aB) (C := R_F) (T := T_F) (N := 4) hx hb hts in_F hown hK hP 1 rfl rfl 0 (by decide) (hts _ wm_29) (fun _ h9 => h9) rfl d_F_placeFactoryImage_48 ?_
        refine lv_iconst (v := 3) hx hb d_F_placeFactoryImage_51 (by decide) ?_
        refine lv_aload_n hx hb d_F_placeFactoryImage_52 rfl (lv_at hl 2 rfl) ?_
        refine lv_iconst (v := 0) hx hb d_F_placeFactoryImage_53 (by decide) ?_
        refine lv_iload_n hx hb d_F_placeFactoryImage_54 rfl (lv_at hl 3 rfl) ?_
        refine lv_iload_n hx hb d_F_placeFactoryImage_55 rfl (lv_at hl 4 rfl) ?_
        refine sw_callVi (rest := [.int (3 : Int32), .ref aB]) 1 1 [.int (nI 0), .int v, .int (nI n)] hx hb hml hown hts hK hN hA hP hD hS (k_F_sumOf l D cA aX aF aB aL aP u _ 0 v n (by omega) (by omega)) cw_F_32 rfl rfl rfl ⟨Nat.le_of_ble_eq_true rfl, Nat.le_of_ble_eq_true rfl⟩ hl.1 rfl rfl (Nat.le_of_ble_eq_true rfl) d_F_placeFactoryImage_56 (fun r56 u56 H locs hq56 hP hD hS => ?_)
        obtain ⟨hr56, hq56⟩ := hq56
        rw [hr56]
        rw [hq56] at hP hD
        refine sw_ast (n := 3) (x := (psum u.1.1 0 v n)) (f := u.1.1) hx hb hK hP hD hS 2 0 rfl rfl (by omega) (by decide) d_F_placeFactoryImage_59 (fun H locs hP hD hS => ?_)
        have hP : va_P D vwC (CW cA aX aF aB aL aP ((upd u.1.1 3 (psum u.1.1 0 v n), u.1.2.1, u.1.2.2.1, u.1.2.2.2), (u.2.1.1, u.2.1.2), (u.2.2.1, u.2.2.2.1, u.2.2.2.2.1, u.2.2.2.2.2.1, u.2.2.2.2.2.2.1, u.2.2.2.2.2.2.2))) H := hP
        have hD : va_D A (CW cA aX aF aB aL aP ((upd u.1.1 3 (psum u.1.1 0 v n), u.1.2.1, u.1.2.2.1, u.1.2.2.2), (u.2.1.1, u.2.1.2), (u.2.2.1, u.2.2.2.1, u.2.2.2.2.1, u.2.2.2.2.2.1, u.2.2.2.2.2.2.1, u.2.2.2.2.2.2.2))) := hD
        refine lv_aload_n hx hb d_F_placeFactoryImage_60 rfl (lv_at hl 2 rfl) ?_
        refine va_get (D := D) (ci := 1) (v := .ref aB) (C := R_F) (T := T_F) (N := 4) hx hb hts in_F hown hK hP 1 rfl rfl 0 (by decide) (hts _ wm_29) (fun _ h9 => h9) rfl d_F_placeFactoryImage_61 ?_
        refine lv_iconst (v := 2) hx hb d_F_placeFactoryImage_64 (by decide) ?_
        refine lv_iload_n hx hb d_F_placeFactoryImage_65 rfl (lv_at hl 4 rfl) ?_
        refine sw_ast (n := 2) (x := nI n) (f := upd u.1.1 3 (psum u.1.1 0 v n)) hx hb hK hP hD hS 2 0 rfl rfl (by omega) (by decide) d_F_placeFactoryImage_66 (fun H locs hP hD hS => ?_)
        have hP : va_P D vwC (CW cA aX aF aB aL aP ((upd (upd u.1.1 3 (psum u.1.1 0 v n)) 2 (nI n), u.1.2.1, u.1.2.2.1, u.1.2.2.2), (u.2.1.1, u.2.1.2), (u.2.2.1, u.2.2.2.1, u.2.2.2.2.1, u.2.2.2.2.2.1, u.2.2.2.2.2.2.1, u.2.2.2.2.2.2.2))) H := hP
        have hD : va_D A (CW cA aX aF aB aL aP ((upd (upd u.1.1 3 (psum u.1.1 0 v n)) 2 (nI n), u.1.2.1, u.1.2.2.1, u.1.2.2.2), (u.2.1.1, u.2.1.2), (u.2.2.1, u.2.2.2.1, u.2.2.2.2.1, u.2.2.2.2.2.1, u.2.2.2.2.2.2.1, u.2.2.2.2.2.2.2))) := hD
        refine lv_aload_n hx hb d_F_placeFactoryImage_67 rfl (lv_at hl 2 rfl) ?_
        refine va_get (D := D) (ci := 1) (v := .ref aB) (C := R_F) (T := T_F) (N := 4) hx hb hts in_F hown hK hP 1 rfl rfl 0 (by decide) (hts _ wm_29) (fun _ h9 => h9) rfl d_F_placeFactoryImage_68 ?_
        refine lv_iconst (v := 1) hx hb d_F_placeFactoryImage_71 (by decide) ?_
        refine lv_iload_n hx hb d_F_placeFactoryImage_72 rfl (lv_at hl 3 rfl) ?_
        refine sw_ast (n := 1) (x := v) (f := upd (upd u.1.1 3 (psum u.1.1 0 v n)) 2 (nI n)) hx hb hK hP hD hS 2 0 rfl rfl (by omega) (by decide) d_F_placeFactoryImage_73 (fun H locs hP hD hS => ?_)
        have hP : va_P D vwC (CW cA aX aF aB aL aP ((upd (upd (upd u.1.1 3 (psum u.1.1 0 v n)) 2 (nI n)) 1 v, u.1.2.1, u.1.2.2.1, u.1.2.2.2), (u.2.1.1, u.2.1.2), (u.2.2.1, u.2.2.2.1, u.2.2.2.2.1, u.2.2.2.2.2.1, u.2.2.2.2.2.2.1, u.2.2.2.2.2.2.2))) H := hP
        have hD : va_D A (CW cA aX aF aB aL aP ((upd (upd (upd u.1.1 3 (psum u.1.1 0 v n)) 2 (nI n)) 1 v, u.1.2.1, u.1.2.2.1, u.1.2.2.2), (u.2.1.1, u.2.1.2), (u.2.2.1, u.2.2.2.1, u.2.2.2.2.1, u.2.2.2.2.2.1, u.2.2.2.2.2.2.1, u.2.2.2.2.2.2.2))) := hD
        refine lv_aload_n hx hb d_F_placeFactoryImage_74 rfl (lv_at hl 2 rfl) ?_
        refine va_get (D := D) (ci := 1) (v := .ref aB) (C := R_F) (T := T_F) (N := 4) hx hb hts in_F hown hK hP 1 rfl rfl 0 (by decide) (hts _ wm_29) (fun _ h9 => h9) rfl d_F_placeFactoryImage_75 ?_
        refine lv_iconst (v := 0) hx hb d_F_placeFactoryImage_78 (by decide) ?_
        refine lv_sipush (v := 165) hx hb d_F_placeFactoryImage_79 (by decide) ?_
        refine sw_ast (n := 0) (x := (165 : Int32)) (f := upd (upd (upd u.1.1 3 (psum u.1.1 0 v n)) 2 (nI n)) 1 v) hx hb hK hP hD hS 2 0 rfl rfl (by omega) (by decide) d_F_placeFactoryImage_82 (fun H locs hP hD hS => ?_)
        have hP : va_P D vwC (CW cA aX aF aB aL aP ((upd (upd (upd (upd u.1.1 3 (psum u.1.1 0 v n)) 2 (nI n)) 1 v) 0 (165 : Int32), u.1.2.1, u.1.2.2.1, u.1.2.2.2), (u.2.1.1, u.2.1.2), (u.2.2.1, u.2.2.2.1, u.2.2.2.2.1, u.2.2.2.2.2.1, u.2.2.2.2.2.2.1, u.2.2.2.2.2.2.2))) H := hP
        have hD : va_D A (CW cA aX aF aB aL aP ((upd (upd (upd (upd u.1.1 3 (psum u.1.1 0 v n)) 2 (nI n)) 1 v) 0 (165 : Int32), u.1.2.1, u.1.2.2.1, u.1.2.2.2), (u.2.1.1, u.2.1.2), (u.2.2.1, u.2.2.2.1, u.2.2.2.2.1, u.2.2.2.2.2.1, u.2.2.2.2.2.2.1, u.2.2.2.2.2.2.2))) := hD
        refine sw_vret (u := ((upd (upd (upd (upd u.1.1 3 (psum u.1.1 0 v n)) 2 (nI n)) 1 v) 0 (165 : Int32), u.1.2.1, u.1.2.2.1, u.1.2.2.2), (u.2.1.1, u.2.1.2), (u.2.2.1, u.2.2.2.1, u.2.2.2.2.1, u.2.2.2.2.2.1, u.2.2.2.2.2.2.1, u.2.2.2.2.2.2.2))) hx hb hr hlk hK hP hD hS d_F_placeFactoryImage_83 ?_
        rw [show n - i = 0 by omega, pfac_0] at hT
        show _ = ((pfacim st.1.1 v n sd, st.1.2), st.2)
        unfold pfacim
        rw [← hT, ← hG, ← hE]
      · skip
        refine lv_iload hx hb d_F_placeFactoryImage_12 (lv_at hl 1 rfl) ?_
        refine lv_ldc (v := 1103515245) hx hb hown (hts _ wm_102) d_F_placeFactoryImage_14 ?_
        refine lv_imul hx hb d_F_placeFactoryImage_16 ?_
        refine lv_sipush (v := 12345) hx hb d_F_placeFactoryImage_17 (by decide) ?_
        refine lv_iadd hx hb d_F_placeFactoryImage_20 ?_
        refine sw_tp (y := (pnx x)) rfl ?_
        refine lv_istore hx hb d_F_placeFactoryImage_21 hl (by decide) rfl (fun ls hl => ?_)
        have hl : lv_has ls 6 [(4, .int (pnx x)), (5, .int (nI i)), (0, .ref aF), (1, .int v), (2, .int (nI n)), (3, .int sd)] := hl
        refine lv_aload_n hx hb d_F_placeFactoryImage_23 rfl (lv_at hl 2 rfl) ?_
        refine va_get (D := D) (ci := 1) (v := .ref aB) (C := R_F) (T := T_F) (N := 4) hx hb hts in_F hown hK hP 1 rfl rfl 0 (by decide) (hts _ wm_29) (fun _ h9 => h9) rfl d_F_placeFactoryImage_24 ?_
        refine lv_iconst (v := 0) hx hb d_F_placeFactoryImage_27 (by decide) ?_
        refine lv_iload hx hb d_F_placeFactoryImage_28 (lv_at hl 1 rfl) ?_
        refine lv_iadd hx hb d_F_placeFactoryImage_30 ?_
        refine sw_tp (y := nI i) ((nI_add 0 i).trans (niE (by omega))) ?_
        refine lv_iload hx hb d_F_placeFactoryImage_31 (lv_at hl 0 rfl) ?_
        refine lv_bipush (v := 16) hx hb d_F_placeFactoryImage_33 (by decide) ?_
        refine lv_iushr (v := ((pnx x).toUInt32 >>> ((16 : Int32).toUInt32 &&& Int32.toUInt32 31)).toInt32) hx hb d_F_placeFactoryImage_35 rfl ?_
        refine lv_sipush (v := 255) hx hb d_F_placeFactoryImage_36 (by decide) ?_
        refine lv_iand hx hb d_F_placeFactoryImage_39 ?_
        refine sw_tp (y := (pbt (pnx x))) rfl ?_
        refine sw_ast (n := i) (x := (pbt (pnx x))) (f := u.1.1) hx hb hK hP hD hS 2 0 rfl rfl (by omega) (by decide) d_F_placeFactoryImage_40 (fun H locs hP hD hS => ?_)
        have hP : va_P D vwC (CW cA aX aF aB aL aP ((upd u.1.1 i (pbt (pnx x)), u.1.2.1, u.1.2.2.1, u.1.2.2.2), (u.2.1.1, u.2.1.2), (u.2.2.1, u.2.2.2.1, u.2.2.2.2.1, u.2.2.2.2.2.1, u.2.2.2.2.2.2.1, u.2.2.2.2.2.2.2))) H := hP
        have hD : va_D A (CW cA aX aF aB aL aP ((upd u.1.1 i (pbt (pnx x)), u.1.2.1, u.1.2.2.1, u.1.2.2.2), (u.2.1.1, u.2.1.2), (u.2.2.1, u.2.2.2.1, u.2.2.2.2.1, u.2.2.2.2.2.1, u.2.2.2.2.2.2.1, u.2.2.2.2.2.2.2))) := hD
        refine lv_iinc (k := 1) (v := nI (i + 1)) hx hb d_F_placeFactoryImage_41 hl rfl (nI_1 _) (by decide) rfl (fun ls hl => ?_)
        have hl : lv_has ls 6 [(5, .int (nI (i + 1))), (4, .int (pnx x)), (0, .ref aF), (1, .int v), (2, .int (nI n)), (3, .int sd)] := hl
        refine lv_goto (tgt := 6) hx hb d_F_placeFactoryImage_44 (by decide) ?_
        exact ih (n - (i + 1)) (by omega) (i + 1) (pnx x) ((upd u.1.1 i (pbt (pnx x)), u.1.2.1, u.1.2.2.1, u.1.2.2.2), (u.2.1.1, u.2.1.2), (u.2.2.1, u.2.2.2.1, u.2.2.2.2.1, u.2.2.2.2.2.1, u.2.2.2.2.2.2.1, u.2.2.2.2.2.2.2)) _ _ _ rfl (by omega) ((pfac_s (i := i) (by omega)).symm.trans hT) hG hE (lv_sub hl [0, 1, 2, 3, 4, 5] rfl) hP hD hS
  exact loop _ 4 sd st _ _ _ rfl (by omega) rfl rfl rfl (lv_sub hl [0, 1, 2, 3, 4, 5] rfl) hP hD hS
set_option maxHeartbeats 4000000 in
set_option maxRecDepth 100000 in
theorem k_X_factory (l : Launch) (D : va_G) (cA : ClassId) (aX aF aB aL aP : Nat) (st : St) (sz : Nat) (v n sd : Int32) : Ci l y_X_factory b_X_factory 4 (some .boolean) 2 D cA (CW cA aX aF aB aL aP) st sz [.ref aX, .int v, .int n, .int sd] (fun r u => r = b2i (psize v n) ∧ u = cfac v n sd st) := by
  refine Ci.enter (by decide) (Nat.le_of_ble_eq_true rfl) ?_
  intro pr en s0 m0 ar bl me co A ls hx hb hml hr hlk hown hts hK hN hA hP hD hS hl
  have hl : lv_has ls 4 [(0, .ref aX), (1, .int v), (2, .int n), (3, .int sd)] := hl
  have hown : s0.vm.findClass R_X = some m0.cls := hown
  refine lv_iload_n hx hb d_X_factory_0 rfl (lv_at hl 1 rfl) ?_
  refine lv_iload_n hx hb d_X_factory_1 rfl (lv_at hl 2 rfl) ?_
  refine sw_callSi (rest := []) [.int v, .int n] hx hb hml hown hts hK hN hA hP hD hS (k_X_isImageSize l D cA aX aF aB aL aP st _ v n) cw_X_40 ⟨Nat.le_of_ble_eq_true rfl, Nat.le_of_ble_eq_true rfl⟩ hl.1 rfl rfl (Nat.le_of_ble_eq_true rfl) d_X_factory_2 (fun r2 u2 H locs hq2 hP hD hS => ?_)
  obtain ⟨hr2, hq2⟩ := hq2
  rw [hr2]
  rw [hq2] at hP hD
  refine sw_bz_ne (tgt := 10) hx hb d_X_factory_5 (by decide) (fun h5 => ?_) (fun h5 => ?_)
  · skip
    obtain ⟨N, hNN, hN8, hN96⟩ := psize_n h5
    have hl : lv_has ls 4 [(0, .ref aX), (1, .int v), (2, .int (nI N)), (3, .int sd)] := by rw [← hNN]; exact hl
    refine lv_aload_n hx hb d_X_factory_10 rfl (lv_at hl 0 rfl) ?_
    refine sw_callVv (rest := []) 0 0 [] hx hb hml hown hts hK hN hA hP hD hS (k_X_losePower l D cA aX aF aB aL aP st _) cw_X_44 rfl rfl rfl ⟨Nat.le_of_ble_eq_true rfl, Nat.le_of_ble_eq_true rfl⟩ hl.1 rfl rfl (Nat.le_of_ble_eq_true rfl) d_X_factory_11 (fun u11 H locs hq11 hP hD hS => ?_)
    have hu11 : u11 = closs st := hq11
    refine lv_aload_n hx hb d_X_factory_14 rfl (lv_at hl 0 rfl) ?_
    refine va_get (D := D) (ci := 0) (v := .ref aF) (C := R_X) (T := T_X) (N := 5) hx hb hts in_X hown hK hP 0 rfl rfl 0 (by decide) (hts _ wm_66) (fun _ h9 => h9) rfl d_X_factory_15 ?_
    refine sw_callVv (rest := []) 1 1 [] hx hb hml hown hts hK hN hA hP hD hS (k_F_clearCut l D cA aX aF aB aL aP u11 _) cw_X_47 rfl rfl rfl ⟨Nat.le_of_ble_eq_true rfl, Nat.le_of_ble_eq_true rfl⟩ hl.1 rfl rfl (Nat.le_of_ble_eq_true rfl) d_X_factory_18 (fun u18 H locs hq18 hP hD hS => ?_)
    have hu18 : u18 = ((u11.1.1, -1, u11.1.2.2.1, u11.1.2.2.2), u11.2) := hq18
    refine lv_aload_n hx hb d_X_factory_21 rfl (lv_at hl 0 rfl) ?_
    refine va_get (D := D) (ci := 0) (v := .ref aF) (C := R_X) (T := T_X) (N := 5) hx hb hts in_X hown hK hP 0 rfl rfl 0 (by decide) (hts _ wm_66) (fun _ h9 => h9) rfl d_X_factory_22 ?_
    refine sw_callVv (rest := []) 1 1 [] hx hb hml hown hts hK hN hA hP hD hS (k_F_reset l D cA aX aF aB aL aP u18 _) cw_X_50 rfl rfl rfl ⟨Nat.le_of_ble_eq_true rfl, Nat.le_of_ble_eq_true rfl⟩ hl.1 rfl rfl (Nat.le_of_ble_eq_true rfl) d_X_factory_25 (fun u25 H locs hq25 hP hD hS => ?_)
    have hu25 : u25 = ((pfill u18.1.1 0 240, u18.1.2), u18.2) := hq25
    refine lv_aload_n hx hb d_X_factory_28 rfl (lv_at hl 0 rfl) ?_
    refine va_get (D := D) (ci := 0) (v := .ref aF) (C := R_X) (T := T_X) (N := 5) hx hb hts in_X hown hK hP 0 rfl rfl 0 (by decide) (hts _ wm_66) (fun _ h9 => h9) rfl d_X_factory_29 ?_
    refine lv_iload_n hx hb d_X_factory_32 rfl (lv_at hl 1 rfl) ?_
    refine lv_iload_n hx hb d_X_factory_33 rfl (lv_at hl 2 rfl) ?_
    refine lv_iload_n hx hb d_X_factory_34 rfl (lv_at hl 3 rfl) ?_
    refine sw_callVv (rest := []) 1 1 [.int v, .int (nI N), .int sd] hx hb hml hown hts hK hN hA hP hD hS (k_F_placeFactoryImage l D cA aX aF aB aL aP u25 _ v N sd (by omega) (by omega)) cw_X_53 rfl rfl rfl ⟨Nat.le_of_ble_eq_true rfl, Nat.le_of_ble_eq_true rfl⟩ hl.1 rfl rfl (Nat.le_of_ble_eq_true rfl) d_X_factory_35 (fun u35 H locs hq35 hP hD hS => ?_)
    have hu35 : u35 = ((pfacim u25.1.1 v N sd, u25.1.2), u25.2) := hq35
    refine lv_iconst (v := 1) hx hb d_X_factory_38 (by decide) ?_
    refine sw_iret (u := u35) (v := (1 : Int32)) hx hb hr hlk hK hP hD hS d_X_factory_39 rfl ?_
    have hcn : n.toNatClampNeg = N := by rw [hNN]; exact nI_clamp (by omega)
    rw [h5, show cfac v n sd st = _ from if_pos h5, hcn]
    exact ⟨rfl, by rw [hu35, hu25, hu18, hu11] <;> rfl⟩
  · skip
    refine lv_iconst (v := 0) hx hb d_X_factory_8 (by decide) ?_
    refine sw_iret (u := st) (v := (0 : Int32)) hx hb hr hlk hK hP hD hS d_X_factory_9 rfl ?_
    rw [h5, show cfac v n sd st = st from if_neg (by rw [h5]; decide)]
    exact ⟨rfl, rfl⟩
