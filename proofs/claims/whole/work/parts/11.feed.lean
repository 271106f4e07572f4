/-! 11.feed: by program (wip/whole/src/gen.py) out of the bytecode and the specs. -/
theorem cmake_len {n : Nat} {v : Int32} {s : St} : (cmake n v s).1.2.2.2.1 = s.2.2.2.1 := by
  by_cases q : (pwrite (96 + n) v (s.1, false)).2 = true
  · rw [cmake_no q]
  · rw [cmake_yes (by simpa using q)]
theorem ccopy_ok : ∀ (d n q : Nat) (s : St), s.2.2.2.2.1 = nI n → s.2.2.2.2.2.1 = nI q → (ccopy d n q s).2 = true → (ccopy d n q s).1.2.2.2.1 = s.2.2.2.1 ∧ (ccopy d n q s).1.2.2.2.2.1 = nI (n + d) ∧ (ccopy d n q s).1.2.2.2.2.2.1 = nI (q + d) := by
  intro d
  induction d with
  | zero =>
    intro n q s h1 h2 _
    rw [ccopy_0]
    exact ⟨rfl, h1, h2⟩
  | succ d ih =>
    intro n q s h1 h2 h
    rw [ccopy_1] at h ⊢
    by_cases hm : (cmake n (cmb s.1.1 q) (cplc s)).2 = true
    · rw [if_pos hm] at h ⊢
      obtain ⟨e1, e2, e3⟩ := ih (n + 1) (q + 1) _ (by rw [cmake_nxt hm]; show s.2.2.2.2.1 + 1 = _; rw [h1]; exact nI_1 _) (by rw [cmake_plc]; show s.2.2.2.2.2.1 + 1 = _; rw [h2]; exact nI_1 _) h
      refine ⟨by rw [e1, cmake_len]; rfl, by rw [e2]; exact niE (by omega), by rw [e3]; exact niE (by omega)⟩
    · rw [if_neg hm] at h
      exact absurd h hm
theorem ctkS_ok {c : Nat} {s : St} (hc : c < 256) (hO : PtOk s) (ho : copen s = true) (h : (ctkS c s).2 = true) : PtOk (ctkS c s).1 := by
  obtain ⟨Ln, n, q, k1, k2, k3, k4, k5, k6, k7⟩ := hO
  have kn := copen_lt ho k1 k2 (by omega) (by omega)
  rw [ctkS_eq k1 k2 k3 (by omega) (by omega) (by omega)] at h ⊢
  unfold ctk at h ⊢
  by_cases a1 : s.2.2.2.2.2.2.1 = 1
  · rw [if_pos a1]
    exact ⟨Ln, n, c, k1, k2, rfl, k4, k5, k6, by omega⟩
  · rw [if_neg a1] at h ⊢
    by_cases a2 : s.2.2.2.2.2.2.1 = 2
    · rw [if_pos a2] at h ⊢
      exact ⟨Ln, n + 1, q, by rw [cmake_len]; exact k1, by rw [cmake_nxt h]; show s.2.2.2.2.1 + 1 = _; rw [k2]; exact nI_1 _, by rw [cmake_plc]; exact k3, by omega, by omega, k6, by omega⟩
    · rw [if_neg a2] at h ⊢
      by_cases a3 : s.2.2.2.2.2.2.1 = 3
      · rw [if_pos a3] at h ⊢
        exact ⟨Ln, n + 1, q + 1, by rw [cmake_len]; exact k1, by rw [cmake_nxt h]; show s.2.2.2.2.1 + 1 = _; rw [k2]; exact nI_1 _, by rw [cmake_plc]; show s.2.2.2.2.2.1 + 1 = _; rw [k3]; exact nI_1 _, by omega, by omega, k6, by omega⟩
      · rw [if_neg a3] at h ⊢
        unfold cobey at h ⊢
        by_cases b0 : c / 64 = 0
        · rw [if_pos b0] at h ⊢
          obtain ⟨e1, e2, e3⟩ := ccopy_ok _ n q s k2 k3 h
          have hm := Nat.min_le_right (c % 64 + 1) (Ln - n)
          exact ⟨Ln, _, _, e1.trans k1, e2, e3, by omega, by omega, k6, by omega⟩
        · rw [if_neg b0]
          by_cases b1 : c / 64 = 1
          · rw [if_pos b1]
            exact ⟨Ln, n, q, k1, k2, k3, k4, k5, k6, k7⟩
          · rw [if_neg b1]
            by_cases b2 : c / 64 = 2
            · rw [if_pos b2]
              exact ⟨Ln, n, q, k1, k2, k3, k4, k5, k6, k7⟩
            · rw [if_neg b2]
              exact ⟨Ln, n, q, k1, k2, k3, k4, k5, k6, k7⟩
theorem d_X_feed_0 : decode b_X_feed 0 = .ok (.iload_n 3, 1) := by decide +kernel
theorem d_X_feed_1 : decode b_X_feed 1 = .ok (.iconst 1, 1) := by decide +kernel
theorem d_X_feed_2 : decode b_X_feed 2 = .ok (.if_icmp .lt 19, 3) := by decide +kernel
theorem d_X_feed_5 : decode b_X_feed 5 = .ok (.iload_n 3, 1) := by decide +kernel
theorem d_X_feed_6 : decode b_X_feed 6 = .ok (.bipush 8, 2) := by decide +kernel
theorem d_X_feed_8 : decode b_X_feed 8 = .ok (.if_icmp .gt 13, 3) := by decide +kernel
theorem d_X_feed_11 : decode b_X_feed 11 = .ok (.aload_n 0, 1) := by decide +kernel
theorem d_X_feed_12 : decode b_X_feed 12 = .ok (.getfield 28, 3) := by decide +kernel
theorem d_X_feed_15 : decode b_X_feed 15 = .ok (.invokevirtual 93, 3) := by decide +kernel
theorem d_X_feed_18 : decode b_X_feed 18 = .ok (.ifCond .ne 5, 3) := by decide +kernel
theorem d_X_feed_21 : decode b_X_feed 21 = .ok (.iconst (-1), 1) := by decide +kernel
theorem d_X_feed_22 : decode b_X_feed 22 = .ok (.ireturn, 1) := by decide +kernel
theorem d_X_feed_23 : decode b_X_feed 23 = .ok (.iconst 0, 1) := by decide +kernel
theorem d_X_feed_24 : decode b_X_feed 24 = .ok (.istore 4, 2) := by decide +kernel
theorem d_X_feed_26 : decode b_X_feed 26 = .ok (.iload 4, 2) := by decide +kernel
theorem d_X_feed_28 : decode b_X_feed 28 = .ok (.iload_n 3, 1) := by decide +kernel
theorem d_X_feed_29 : decode b_X_feed 29 = .ok (.if_icmp .ge 50, 3) := by decide +kernel
theorem d_X_feed_32 : decode b_X_feed 32 = .ok (.aload_n 0, 1) := by decide +kernel
theorem d_X_feed_33 : decode b_X_feed 33 = .ok (.getfield 28, 3) := by decide +kernel
theorem d_X_feed_36 : decode b_X_feed 36 = .ok (.invokevirtual 93, 3) := by decide +kernel
theorem d_X_feed_39 : decode b_X_feed 39 = .ok (.ifCond .eq 40, 3) := by decide +kernel
theorem d_X_feed_42 : decode b_X_feed 42 = .ok (.lload_n 1, 1) := by decide +kernel
theorem d_X_feed_43 : decode b_X_feed 43 = .ok (.bipush 8, 2) := by decide +kernel
theorem d_X_feed_45 : decode b_X_feed 45 = .ok (.iload 4, 2) := by decide +kernel
theorem d_X_feed_47 : decode b_X_feed 47 = .ok (.imul, 1) := by decide +kernel
theorem d_X_feed_48 : decode b_X_feed 48 = .ok (.lushr, 1) := by decide +kernel
theorem d_X_feed_49 : decode b_X_feed 49 = .ok (.l2i, 1) := by decide +kernel
theorem d_X_feed_50 : decode b_X_feed 50 = .ok (.sipush 255, 3) := by decide +kernel
theorem d_X_feed_53 : decode b_X_feed 53 = .ok (.iand, 1) := by decide +kernel
theorem d_X_feed_54 : decode b_X_feed 54 = .ok (.istore 5, 2) := by decide +kernel
theorem d_X_feed_56 : decode b_X_feed 56 = .ok (.aload_n 0, 1) := by decide +kernel
theorem d_X_feed_57 : decode b_X_feed 57 = .ok (.getfield 28, 3) := by decide +kernel
theorem d_X_feed_60 : decode b_X_feed 60 = .ok (.iload 5, 2) := by decide +kernel
theorem d_X_feed_62 : decode b_X_feed 62 = .ok (.invokevirtual 96, 3) := by decide +kernel
theorem d_X_feed_65 : decode b_X_feed 65 = .ok (.ifCond .ne 8, 3) := by decide +kernel
theorem d_X_feed_68 : decode b_X_feed 68 = .ok (.aload_n 0, 1) := by decide +kernel
theorem d_X_feed_69 : decode b_X_feed 69 = .ok (.invokevirtual 64, 3) := by decide +kernel
theorem d_X_feed_72 : decode b_X_feed 72 = .ok (.ireturn, 1) := by decide +kernel
theorem d_X_feed_73 : decode b_X_feed 73 = .ok (.iinc 4 1, 3) := by decide +kernel
theorem d_X_feed_76 : decode b_X_feed 76 = .ok (.goto (-50), 3) := by decide +kernel
theorem d_X_feed_79 : decode b_X_feed 79 = .ok (.aload_n 0, 1) := by decide +kernel
theorem d_X_feed_80 : decode b_X_feed 80 = .ok (.getfield 28, 3) := by decide +kernel
theorem d_X_feed_83 : decode b_X_feed 83 = .ok (.invokevirtual 93, 3) := by decide +kernel
theorem d_X_feed_86 : decode b_X_feed 86 = .ok (.ifCond .ne 18, 3) := by decide +kernel
theorem d_X_feed_89 : decode b_X_feed 89 = .ok (.aload_n 0, 1) := by decide +kernel
theorem d_X_feed_90 : decode b_X_feed 90 = .ok (.getfield 28, 3) := by decide +kernel
theorem d_X_feed_93 : decode b_X_feed 93 = .ok (.invokevirtual 99, 3) := by decide +kernel
theorem d_X_feed_96 : decode b_X_feed 96 = .ok (.ifCond .ne 8, 3) := by decide +kernel
theorem d_X_feed_99 : decode b_X_feed 99 = .ok (.aload_n 0, 1) := by decide +kernel
theorem d_X_feed_100 : decode b_X_feed 100 = .ok (.invokevirtual 64, 3) := by decide +kernel
theorem d_X_feed_103 : decode b_X_feed 103 = .ok (.ireturn, 1) := by decide +kernel
theorem d_X_feed_104 : decode b_X_feed 104 = .ok (.aload_n 0, 1) := by decide +kernel
theorem d_X_feed_105 : decode b_X_feed 105 = .ok (.getfield 28, 3) := by decide +kernel
theorem d_X_feed_108 : decode b_X_feed 108 = .ok (.invokevirtual 90, 3) := by decide +kernel
theorem d_X_feed_111 : decode b_X_feed 111 = .ok (.ireturn, 1) := by decide +kernel
set_option maxHeartbeats 4000000 in
set_option maxRecDepth 100000 in
theorem k_X_feed (l : Launch) (D : va_G) (cA : ClassId) (aX aF aB aL aP : Nat) (st : St) (sz : Nat) (b : Int64) (n : Int32) (hok : copen st = true → PtOk st) : Ci l y_X_feed b_X_feed 6 (some .int) 6 D cA (CW cA aX aF aB aL aP) st sz [.ref aX, .long b, .int n] (fun r u => r = (cfeed b n st).1 ∧ u = (cfeed b n st).2) := by
  refine Ci.enter (by decide) (Nat.le_of_ble_eq_true rfl) ?_
  intro pr en s0 m0 ar bl me co A ls hx hb hml hr hlk hown hts hK hN hA hP hD hS hl
  have hl : lv_has ls 6 [(0, .ref aX), (1, .long b), (3, .int n)] := hl
  have hown : s0.vm.findClass R_X = some m0.cls := hown
  refine lv_iload_n hx hb d_X_feed_0 rfl (lv_at hl 2 rfl) ?_
  refine lv_iconst (v := 1) hx hb d_X_feed_1 (by decide) ?_
  refine lv_icmp_lt (tgt := 21) hx hb d_X_feed_2 (by decide) (fun h2 => ?_) (fun h2 => ?_)
  · skip
    refine lv_iconst (v := -1) hx hb d_X_feed_21 (by decide) ?_
    refine sw_iret (u := st) (v := (-1 : Int32)) hx hb hr hlk hK hP hD hS d_X_feed_22 rfl ?_
    rw [show cfeed b n st = _ from if_pos (decide_eq_true (Or.inl h2))]
    exact ⟨rfl, rfl⟩
  · skip
    refine lv_iload_n hx hb d_X_feed_5 rfl (lv_at hl 2 rfl) ?_
    refine lv_bipush (v := 8) hx hb d_X_feed_6 (by decide) ?_
    refine lv_icmp_gt (tgt := 21) hx hb d_X_feed_8 (by decide) (fun h8 => ?_) (fun h8 => ?_)
    · skip
      refine lv_iconst (v := -1) hx hb d_X_feed_21 (by decide) ?_
      refine sw_iret (u := st) (v := (-1 : Int32)) hx hb hr hlk hK hP hD hS d_X_feed_22 rfl ?_
      rw [show cfeed b n st = _ from if_pos (decide_eq_true (Or.inr (Or.inl h8)))]
      exact ⟨rfl, rfl⟩
    · skip
      refine lv_aload_n hx hb d_X_feed_11 rfl (lv_at hl 0 rfl) ?_
      refine va_get (D := D) (ci := 0) (v := .ref aP) (C := R_X) (T := T_X) (N := 5) hx hb hts in_X hown hK hP 0 rfl rfl 2 (by decide) (hts _ wm_68) (fun _ h9 => h9) rfl d_X_feed_12 ?_
      refine sw_callVi (rest := []) 4 3 [] hx hb hml hown hts hK hN hA hP hD hS (k_P_isOpen l D cA aX aF aB aL aP st _) cw_X_93 rfl rfl rfl ⟨Nat.le_of_ble_eq_true rfl, Nat.le_of_ble_eq_true rfl⟩ hl.1 rfl rfl (Nat.le_of_ble_eq_true rfl) d_X_feed_15 (fun r15 u15 H locs hq15 hP hD hS => ?_)
      obtain ⟨hr15, hq15⟩ := hq15
      rw [hr15]
      rw [hq15] at hP hD
      refine sw_bz_ne (tgt := 23) hx hb d_X_feed_18 (by decide) (fun h18 => ?_) (fun h18 => ?_)
      · skip
        obtain ⟨N, hNN, hN8⟩ : ∃ k : Nat, n = nI k ∧ k ≤ 8 := n18 h2 h8
        have hl : lv_has ls 6 [(0, .ref aX), (1, .long b), (3, .int (nI N))] := by rw [← hNN]; exact hl
        refine lv_iconst (v := 0) hx hb d_X_feed_23 (by decide) ?_
        refine lv_istore hx hb d_X_feed_24 hl (by decide) rfl (fun ls hl => ?_)
        have hl : lv_has ls 6 [(4, .int (0 : Int32)), (0, .ref aX), (1, .long b), (3, .int (nI N))] := hl
        have loop : ∀ (d : Nat) (i : Nat) (u : St) (H : Heap) (locs : List Loc) (ls : Array Slot), N - i = d → i ≤ N → cfdl b (N - i) i u = cfdl b N 0 st → PtOk u → lv_has ls 6 [(4, .int (nI i)), (0, .ref aX), (1, .long b), (3, .int (nI N))] → va_P D vwC (CW cA aX aF aB aL aP u) H → va_D A (CW cA aX aF aB aL aP u) → va_S A s0.heap H locs → W pr l en (lvr 6) s0 m0 ar bl me co H locs 0 0 (MQ bl (va_Qi (fun r u => r = (cfeed b n st).1 ∧ u = (cfeed b n st).2) (sw_B D cA A (CW cA aX aF aB aL aP)) A) ar s0 0 0 A) (F0 m0 26 ls []) := by
          intro d
          induction d using Nat.strongRecOn with
          | ind d ih =>
            intro i u H locs ls hd hi hT hO hl hP hD hS
            refine lv_iload hx hb d_X_feed_26 (lv_at hl 0 rfl) ?_
            refine lv_iload_n hx hb d_X_feed_28 rfl (lv_at hl 3 rfl) ?_
            refine sw_nc_ge (a := i) (b := N) (tgt := 79) hx hb (by omega) (by omega) d_X_feed_29 (by decide) (fun h29 => ?_) (fun h29 => ?_)
            · skip
              have hz86 : cfdl b (N - i) i u = (u, true) := by rw [show N - i = 0 by omega, cfdl_0]
              refine lv_aload_n hx hb d_X_feed_79 rfl (lv_at hl 1 rfl) ?_
              refine va_get (D := D) (ci := 0) (v := .ref aP) (C := R_X) (T := T_X) (N := 5) hx hb hts in_X hown hK hP 0 rfl rfl 2 (by decide) (hts _ wm_68) (fun _ h9 => h9) rfl d_X_feed_80 ?_
              refine sw_callVi (rest := []) 4 3 [] hx hb hml hown hts hK hN hA hP hD hS (k_P_isOpen l D cA aX aF aB aL aP u _) cw_X_93 rfl rfl rfl ⟨Nat.le_of_ble_eq_true rfl, Nat.le_of_ble_eq_true rfl⟩ hl.1 rfl rfl (Nat.le_of_ble_eq_true rfl) d_X_feed_83 (fun r83 u83 H locs hq83 hP hD hS => ?_)
              obtain ⟨hr83, hq83⟩ := hq83
              rw [hr83]
              rw [hq83] at hP hD
              refine sw_bz_ne (tgt := 104) hx hb d_X_feed_86 (by decide) (fun h86 => ?_) (fun h86 => ?_)
              · skip
                refine lv_aload_n hx hb d_X_feed_104 rfl (lv_at hl 1 rfl) ?_
                refine va_get (D := D) (ci := 0) (v := .ref aP) (C := R_X) (T := T_X) (N := 5) hx hb hts in_X hown hK hP 0 rfl rfl 2 (by decide) (hts _ wm_68) (fun _ h9 => h9) rfl d_X_feed_105 ?_
                refine sw_callVi (rest := []) 4 3 [] hx hb hml hown hts hK hN hA hP hD hS (k_P_nextByte l D cA aX aF aB aL aP u _) cw_X_90 rfl rfl rfl ⟨Nat.le_of_ble_eq_true rfl, Nat.le_of_ble_eq_true rfl⟩ hl.1 rfl rfl (Nat.le_of_ble_eq_true rfl) d_X_feed_108 (fun r108 u108 H locs hq108 hP hD hS => ?_)
                obtain ⟨hr108, hq108⟩ := hq108
                rw [hr108]
                rw [hq108] at hP hD
                refine sw_iret (u := u) (v := u.2.2.2.2.1) hx hb hr hlk hK hP hD hS d_X_feed_111 rfl ?_
                have hno : cfdno n st = false := decide_eq_false (fun q => q.elim h2 (fun q => q.elim h8 (fun q => by rw [h18] at q; cases q)))
                have hcn : n.toNatClampNeg = N := by rw [hNN]; exact nI_clamp (by omega)
                rw [cfeed_open hno hcn hT hz86 h86]
                exact ⟨rfl, rfl⟩
              · skip
                obtain ⟨Ln, n1, q1, k1, k2, k3, k4, k5, k6, k7⟩ := hO
                refine lv_aload_n hx hb d_X_feed_89 rfl (lv_at hl 1 rfl) ?_
                refine va_get (D := D) (ci := 0) (v := .ref aP) (C := R_X) (T := T_X) (N := 5) hx hb hts in_X hown hK hP 0 rfl rfl 2 (by decide) (hts _ wm_68) (fun _ h9 => h9) rfl d_X_feed_90 ?_
                refine sw_callVi (rest := []) 4 3 [] hx hb hml hown hts hK hN hA hP hD hS (k_P_seal l D cA aX aF aB aL aP u _ Ln k1 (by omega) k6) cw_X_99 rfl rfl rfl ⟨Nat.le_of_ble_eq_true rfl, Nat.le_of_ble_eq_true rfl⟩ hl.1 rfl rfl (Nat.le_of_ble_eq_true rfl) d_X_feed_93 (fun r93 u93 H locs hq93 hP hD hS => ?_)
                obtain ⟨hr93, hu93⟩ := hq93
                rw [hr93]
                refine sw_bz_ne (tgt := 104) hx hb d_X_feed_96 (by decide) (fun h96 => ?_) (fun h96 => ?_)
                · skip
                  refine lv_aload_n hx hb d_X_feed_104 rfl (lv_at hl 1 rfl) ?_
                  refine va_get (D := D) (ci := 0) (v := .ref aP) (C := R_X) (T := T_X) (N := 5) hx hb hts in_X hown hK hP 0 rfl rfl 2 (by decide) (hts _ wm_68) (fun _ h9 => h9) rfl d_X_feed_105 ?_
                  refine sw_callVi (rest := []) 4 3 [] hx hb hml hown hts hK hN hA hP hD hS (k_P_nextByte l D cA aX aF aB aL aP u93 _) cw_X_90 rfl rfl rfl ⟨Nat.le_of_ble_eq_true rfl, Nat.le_of_ble_eq_true rfl⟩ hl.1 rfl rfl (Nat.le_of_ble_eq_true rfl) d_X_feed_108 (fun r108 u108 H locs hq108 hP hD hS => ?_)
                  obtain ⟨hr108, hq108⟩ := hq108
                  rw [hr108]
                  rw [hq108] at hP hD
                  refine sw_iret (u := u93) (v := u93.2.2.2.2.1) hx hb hr hlk hK hP hD hS d_X_feed_111 rfl ?_
                  have hno : cfdno n st = false := decide_eq_false (fun q => q.elim h2 (fun q => q.elim h8 (fun q => by rw [h18] at q; cases q)))
                  have hcn : n.toNatClampNeg = N := by rw [hNN]; exact nI_clamp (by omega)
                  rw [cfeed_end hno hcn hT hz86 h86]
                  have es : pseal u.2.2.1 Ln (u.1, false) = csealS u := by unfold csealS; rw [k1, nI_clamp (by omega)]
                  rw [es] at h96 hu93
                  rw [if_neg (by rw [mz_ok h96]; decide)]
                  exact ⟨by rw [hu93], hu93⟩
                · skip
                  refine lv_aload_n hx hb d_X_feed_99 rfl (lv_at hl 1 rfl) ?_
                  refine sw_callVi (rest := []) 0 0 [] hx hb hml hown hts hK hN hA hP hD hS (k_X_powerGone l D cA aX aF aB aL aP u93 _) cw_X_64 rfl rfl rfl ⟨Nat.le_of_ble_eq_true rfl, Nat.le_of_ble_eq_true rfl⟩ hl.1 rfl rfl (Nat.le_of_ble_eq_true rfl) d_X_feed_100 (fun r100 u100 H locs hq100 hP hD hS => ?_)
                  obtain ⟨hr100, hu100⟩ := hq100
                  rw [hr100]
                  refine sw_iret (u := u100) (v := ((-2))) hx hb hr hlk hK hP hD hS d_X_feed_103 rfl ?_
                  have hno : cfdno n st = false := decide_eq_false (fun q => q.elim h2 (fun q => q.elim h8 (fun q => by rw [h18] at q; cases q)))
                  have hcn : n.toNatClampNeg = N := by rw [hNN]; exact nI_clamp (by omega)
                  rw [cfeed_end hno hcn hT hz86 h86]
                  have es : pseal u.2.2.1 Ln (u.1, false) = csealS u := by unfold csealS; rw [k1, nI_clamp (by omega)]
                  rw [es] at h96 hu93
                  rw [if_pos (mz_no h96)]
                  exact ⟨rfl, by rw [hu100, hu93] <;> rfl⟩
            · skip
              refine lv_aload_n hx hb d_X_feed_32 rfl (lv_at hl 1 rfl) ?_
              refine va_get (D := D) (ci := 0) (v := .ref aP) (C := R_X) (T := T_X) (N := 5) hx hb hts in_X hown hK hP 0 rfl rfl 2 (by decide) (hts _ wm_68) (fun _ h9 => h9) rfl d_X_feed_33 ?_
              refine sw_callVi (rest := []) 4 3 [] hx hb hml hown hts hK hN hA hP hD hS (k_P_isOpen l D cA aX aF aB aL aP u _) cw_X_93 rfl rfl rfl ⟨Nat.le_of_ble_eq_true rfl, Nat.le_of_ble_eq_true rfl⟩ hl.1 rfl rfl (Nat.le_of_ble_eq_true rfl) d_X_feed_36 (fun r36 u36 H locs hq36 hP hD hS => ?_)
              obtain ⟨hr36, hq36⟩ := hq36
              rw [hr36]
              rw [hq36] at hP hD
              refine sw_bz_eq (tgt := 79) hx hb d_X_feed_39 (by decide) (fun h39 => ?_) (fun h39 => ?_)
              · skip
                have hz86 : cfdl b (N - i) i u = (u, true) := cfdl_stop (i := i) (by omega) h39
                refine lv_aload_n hx hb d_X_feed_79 rfl (lv_at hl 1 rfl) ?_
                refine va_get (D := D) (ci := 0) (v := .ref aP) (C := R_X) (T := T_X) (N := 5) hx hb hts in_X hown hK hP 0 rfl rfl 2 (by decide) (hts _ wm_68) (fun _ h9 => h9) rfl d_X_feed_80 ?_
                refine sw_callVi (rest := []) 4 3 [] hx hb hml hown hts hK hN hA hP hD hS (k_P_isOpen l D cA aX aF aB aL aP u _) cw_X_93 rfl rfl rfl ⟨Nat.le_of_ble_eq_true rfl, Nat.le_of_ble_eq_true rfl⟩ hl.1 rfl rfl (Nat.le_of_ble_eq_true rfl) d_X_feed_83 (fun r83 u83 H locs hq83 hP hD hS => ?_)
                obtain ⟨hr83, hq83⟩ := hq83
                rw [hr83]
                rw [hq83] at hP hD
                refine sw_bz_ne (tgt := 104) hx hb d_X_feed_86 (by decide) (fun h86 => ?_) (fun h86 => ?_)
                · skip
                  refine lv_aload_n hx hb d_X_feed_104 rfl (lv_at hl 1 rfl) ?_
                  refine va_get (D := D) (ci := 0) (v := .ref aP) (C := R_X) (T := T_X) (N := 5) hx hb hts in_X hown hK hP 0 rfl rfl 2 (by decide) (hts _ wm_68) (fun _ h9 => h9) rfl d_X_feed_105 ?_
                  refine sw_callVi (rest := []) 4 3 [] hx hb hml hown hts hK hN hA hP hD hS (k_P_nextByte l D cA aX aF aB aL aP u _) cw_X_90 rfl rfl rfl ⟨Nat.le_of_ble_eq_true rfl, Nat.le_of_ble_eq_true rfl⟩ hl.1 rfl rfl (Nat.le_of_ble_eq_true rfl) d_X_feed_108 (fun r108 u108 H locs hq108 hP hD hS => ?_)
                  obtain ⟨hr108, hq108⟩ := hq108
                  rw [hr108]
                  rw [hq108] at hP hD
                  refine sw_iret (u := u) (v := u.2.2.2.2.1) hx hb hr hlk hK hP hD hS d_X_feed_111 rfl ?_
                  have hno : cfdno n st = false := decide_eq_false (fun q => q.elim h2 (fun q => q.elim h8 (fun q => by rw [h18] at q; cases q)))
                  have hcn : n.toNatClampNeg = N := by rw [hNN]; exact nI_clamp (by omega)
                  rw [cfeed_open hno hcn hT hz86 h86]
                  exact ⟨rfl, rfl⟩
                · skip
                  obtain ⟨Ln, n1, q1, k1, k2, k3, k4, k5, k6, k7⟩ := hO
                  refine lv_aload_n hx hb d_X_feed_89 rfl (lv_at hl 1 rfl) ?_
                  refine va_get (D := D) (ci := 0) (v := .ref aP) (C := R_X) (T := T_X) (N := 5) hx hb hts in_X hown hK hP 0 rfl rfl 2 (by decide) (hts _ wm_68) (fun _ h9 => h9) rfl d_X_feed_90 ?_
                  refine sw_callVi (rest := []) 4 3 [] hx hb hml hown hts hK hN hA hP hD hS (k_P_seal l D cA aX aF aB aL aP u _ Ln k1 (by omega) k6) cw_X_99 rfl rfl rfl ⟨Nat.le_of_ble_eq_true rfl, Nat.le_of_ble_eq_true rfl⟩ hl.1 rfl rfl (Nat.le_of_ble_eq_true rfl) d_X_feed_93 (fun r93 u93 H locs hq93 hP hD hS => ?_)
                  obtain ⟨hr93, hu93⟩ := hq93
                  rw [hr93]
                  refine sw_bz_ne (tgt := 104) hx hb d_X_feed_96 (by decide) (fun h96 => ?_) (fun h96 => ?_)
                  · skip
                    refine lv_aload_n hx hb d_X_feed_104 rfl (lv_at hl 1 rfl) ?_
                    refine va_get (D := D) (ci := 0) (v := .ref aP) (C := R_X) (T := T_X) (N := 5) hx hb hts in_X hown hK hP 0 rfl rfl 2 (by decide) (hts _ wm_68) (fun _ h9 => h9) rfl d_X_feed_105 ?_
                    refine sw_callVi (rest := []) 4 3 [] hx hb hml hown hts hK hN hA hP hD hS (k_P_nextByte l D cA aX aF aB aL aP u93 _) cw_X_90 rfl rfl rfl ⟨Nat.le_of_ble_eq_true rfl, Nat.le_of_ble_eq_true rfl⟩ hl.1 rfl rfl (Nat.le_of_ble_eq_true rfl) d_X_feed_108 (fun r108 u108 H locs hq108 hP hD hS => ?_)
                    obtain ⟨hr108, hq108⟩ := hq108
                    rw [hr108]
                    rw [hq108] at hP hD
                    refine sw_iret (u := u93) (v := u93.2.2.2.2.1) hx hb hr hlk hK hP hD hS d_X_feed_111 rfl ?_
                    have hno : cfdno n st = false := decide_eq_false (fun q => q.elim h2 (fun q => q.elim h8 (fun q => by rw [h18] at q; cases q)))
                    have hcn : n.toNatClampNeg = N := by rw [hNN]; exact nI_clamp (by omega)
                    rw [cfeed_end hno hcn hT hz86 h86]
                    have es : pseal u.2.2.1 Ln (u.1, false) = csealS u := by unfold csealS; rw [k1, nI_clamp (by omega)]
                    rw [es] at h96 hu93
                    rw [if_neg (by rw [mz_ok h96]; decide)]
                    exact ⟨by rw [hu93], hu93⟩
                  · skip
                    refine lv_aload_n hx hb d_X_feed_99 rfl (lv_at hl 1 rfl) ?_
                    refine sw_callVi (rest := []) 0 0 [] hx hb hml hown hts hK hN hA hP hD hS (k_X_powerGone l D cA aX aF aB aL aP u93 _) cw_X_64 rfl rfl rfl ⟨Nat.le_of_ble_eq_true rfl, Nat.le_of_ble_eq_true rfl⟩ hl.1 rfl rfl (Nat.le_of_ble_eq_true rfl) d_X_feed_100 (fun r100 u100 H locs hq100 hP hD hS => ?_)
                    obtain ⟨hr100, hu100⟩ := hq100
                    rw [hr100]
                    refine sw_iret (u := u100) (v := ((-2))) hx hb hr hlk hK hP hD hS d_X_feed_103 rfl ?_
                    have hno : cfdno n st = false := decide_eq_false (fun q => q.elim h2 (fun q => q.elim h8 (fun q => by rw [h18] at q; cases q)))
                    have hcn : n.toNatClampNeg = N := by rw [hNN]; exact nI_clamp (by omega)
                    rw [cfeed_end hno hcn hT hz86 h86]
                    have es : pseal u.2.2.1 Ln (u.1, false) = csealS u := by unfold csealS; rw [k1, nI_clamp (by omega)]
                    rw [es] at h96 hu93
                    rw [if_pos (mz_no h96)]
                    exact ⟨rfl, by rw [hu100, hu93] <;> rfl⟩
              · skip
                obtain ⟨Ln, n1, q1, k1, k2, k3, k4, k5, k6, k7⟩ := hO
                have kn : n1 < Ln := copen_lt h39 k1 k2 (by omega) (by omega)
                refine lv_lload_n hx hb d_X_feed_42 rfl (lv_at hl 2 rfl) ?_
                refine lv_bipush (v := 8) hx hb d_X_feed_43 (by decide) ?_
                refine lv_iload hx hb d_X_feed_45 (lv_at hl 0 rfl) ?_
                refine lv_imul hx hb d_X_feed_47 ?_
                refine sw_tp (y := nI (i * 8)) ((pk_mul 8 i).trans (niE (by omega))) ?_
                refine lv_lushr (v := (b.toUInt64 >>> ((nI (i * 8)).toInt64.toUInt64 &&& Int64.toUInt64 63)).toInt64) hx hb d_X_feed_48 rfl ?_
                refine lv_l2i (v := ((b.toUInt64 >>> ((nI (i * 8)).toInt64.toUInt64 &&& Int64.toUInt64 63)).toInt64).toInt32) hx hb d_X_feed_49 rfl ?_
                refine lv_sipush (v := 255) hx hb d_X_feed_50 (by decide) ?_
                refine lv_iand hx hb d_X_feed_53 ?_
                refine sw_tp (y := nI (pbyte b i)) (pk_and _ 8 rfl) ?_
                refine lv_istore hx hb d_X_feed_54 hl (by decide) rfl (fun ls hl => ?_)
                have hl : lv_has ls 6 [(5, .int (nI (pbyte b i))), (4, .int (nI i)), (0, .ref aX), (1, .long b), (3, .int (nI N))] := hl
                refine lv_aload_n hx hb d_X_feed_56 rfl (lv_at hl 2 rfl) ?_
                refine va_get (D := D) (ci := 0) (v := .ref aP) (C := R_X) (T := T_X) (N := 5) hx hb hts in_X hown hK hP 0 rfl rfl 2 (by decide) (hts _ wm_68) (fun _ h9 => h9) rfl d_X_feed_57 ?_
                refine lv_iload hx hb d_X_feed_60 (lv_at hl 0 rfl) ?_
                refine sw_callVi (rest := []) 4 3 [.int (nI (pbyte b i))] hx hb hml hown hts hK hN hA hP hD hS (k_P_take l D cA aX aF aB aL aP u _ (pbyte b i) Ln n1 q1 (pbyte_lt b i) k1 k2 k3 kn k6 (by omega)) cw_X_96 rfl rfl rfl ⟨Nat.le_of_ble_eq_true rfl, Nat.le_of_ble_eq_true rfl⟩ hl.1 rfl rfl (Nat.le_of_ble_eq_true rfl) d_X_feed_62 (fun r62 u62 H locs hq62 hP hD hS => ?_)
                obtain ⟨hr62, hu62⟩ := hq62
                rw [hr62]
                refine sw_bz_ne (tgt := 73) hx hb d_X_feed_65 (by decide) (fun h65 => ?_) (fun h65 => ?_)
                · skip
                  refine lv_iinc (k := 1) (v := nI (i + 1)) hx hb d_X_feed_73 hl rfl (nI_1 _) (by decide) rfl (fun ls hl => ?_)
                  have hl : lv_has ls 6 [(4, .int (nI (i + 1))), (5, .int (nI (pbyte b i))), (0, .ref aX), (1, .long b), (3, .int (nI N))] := hl
                  refine lv_goto (tgt := 26) hx hb d_X_feed_76 (by decide) ?_
                  have ek := ctkS_eq (c := pbyte b i) k1 k2 k3 (by omega) (by omega) (by omega)
                  rw [← ek] at h65 hu62
                  exact ih (N - (i + 1)) (by omega) (i + 1) u62 _ _ _ rfl (by omega) (by rw [← hT, cfdl_yes (i := i) (by omega) h39 h65, ← hu62]) (by rw [hu62]; exact ctkS_ok (pbyte_lt b i) ⟨Ln, n1, q1, k1, k2, k3, k4, k5, k6, k7⟩ h39 h65) (lv_sub hl [0, 2, 3, 4] rfl) hP hD hS
                · skip
                  refine lv_aload_n hx hb d_X_feed_68 rfl (lv_at hl 2 rfl) ?_
                  refine sw_callVi (rest := []) 0 0 [] hx hb hml hown hts hK hN hA hP hD hS (k_X_powerGone l D cA aX aF aB aL aP u62 _) cw_X_64 rfl rfl rfl ⟨Nat.le_of_ble_eq_true rfl, Nat.le_of_ble_eq_true rfl⟩ hl.1 rfl rfl (Nat.le_of_ble_eq_true rfl) d_X_feed_69 (fun r69 u69 H locs hq69 hP hD hS => ?_)
                  obtain ⟨hr69, hu69⟩ := hq69
                  rw [hr69]
                  refine sw_iret (u := u69) (v := ((-2))) hx hb hr hlk hK hP hD hS d_X_feed_72 rfl ?_
                  have hno : cfdno n st = false := decide_eq_false (fun q => q.elim h2 (fun q => q.elim h8 (fun q => by rw [h18] at q; cases q)))
                  have hcn : n.toNatClampNeg = N := by rw [hNN]; exact nI_clamp (by omega)
                  have ek := ctkS_eq (c := pbyte b i) k1 k2 k3 (by omega) (by omega) (by omega)
                  rw [← ek] at h65 hu62
                  have hz : cfdl b N 0 st = ctkS (pbyte b i) u := by rw [← hT, cfdl_no (i := i) (by omega) h39 h65]
                  rw [show cfeed b n st = _ from (if_neg (by rw [hno]; decide)).trans (if_pos (by rw [hcn, hz]; exact h65)), hcn, hz]
                  exact ⟨rfl, by rw [hu69, hu62]⟩
        exact loop _ 0 st _ _ _ rfl (by omega) rfl (hok h18) (lv_sub hl [0, 1, 2, 3] rfl) hP hD hS
      · skip
        refine lv_iconst (v := -1) hx hb d_X_feed_21 (by decide) ?_
        refine sw_iret (u := st) (v := (-1 : Int32)) hx hb hr hlk hK hP hD hS d_X_feed_22 rfl ?_
        rw [show cfeed b n st = _ from if_pos (decide_eq_true (Or.inr (Or.inr h18)))]
        exact ⟨rfl, rfl⟩
