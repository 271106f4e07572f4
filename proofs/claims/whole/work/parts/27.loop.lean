/-! The law's loop, by program (wip/whole/src/law.py). -/
set_option maxHeartbeats 8000000 in
set_option maxRecDepth 100000 in
theorem law_loop {p : Program} {e : Env} {s : State} {m : MethodId} {below : List Frame} {meth : Method} {c : Code} (l : Launch) (hfl : l.stackTraces = false) {b L : Nat} {xs : Nat → Int32} (hL : L ≤ 2048) (C0 : lw_At p s m meth c b L xs) (hB : ∀ w ∈ BIG, w.before #[Value.ref b] s = true) (hTA : TAu s) {D : va_G} {cA cL : ClassId} (hK2 : va_K D vwC [(cA, .int), (cL, .long)] s) (hN : va_Nw nestL s) (aX aF aB aL aP aJ aM aG : Nat) : ∀ (d k : Nat), L - 4 * k = d → 4 * k ≤ L → ∀ (st : St) (mm : Ms) (f : Nat → Int64) (H : Heap) (locs : List Loc) (ls : Array Slot), Rl st mm → lv_has ls 7 [(4, .int (nI (4 * k))), (3, .ref aJ), (2, .ref aM), (1, .ref aX), (0, .ref b)] → va_P D vwC (LWd cA cL aX aF aB aL aP aJ aM aG st mm f) H → va_D (lwA s) (LWd cA cL aX aF aB aL aP aJ aM aG st mm f) → va_S (lwA s) s.heap H locs → W p l e room_1 s m #[Value.ref b] below meth c H locs (8 + k) (512 + 6 * k) (lw_Z below #[Value.ref b] s) (F0 m 23 ls []) := by
  obtain ⟨hx, hb, hr, hml, hown0, hts, hX, hbl, hlk, hgv⟩ := C0
  have hown : s.vm.findClass R_Law = some m.cls := hown0
  have hK : va_K D vwC [(cA, .int)] s := hK2.sub [0] rfl
  have hA : ∀ q : Nat, s.heap.size ≤ q → lwA s q := fun q h => h
  have hAo : ∀ q : Nat, q < s.heap.size → ¬ lwA s q := fun q h h2 => absurd h (Nat.not_lt.mpr h2)
  have hbA : ¬ lwA s b := hAo b hbl
  have hcwH : (Cond.codeWith y_Law_byteAt b_Law_byteAt 4 (some .int) [(0, 9, 12, 13)]).before #[Value.ref b] s = true := hts _ cwH_in
  intro d
  induction d using Nat.strongRecOn with
  | _ d ih =>
    intro k hd hk st mm f H locs ls hR hl hP hD hS
    have h0 := lv_at hl 4 rfl
    have h4 := lv_at hl 0 rfl
    refine lv_iload hx hb dl_23 h4 ?_
    refine lv_aload_n hx hb dl_25 rfl h0 ?_
    refine va_slen hx hb hX hbl hbA hS dl_26 ?_
    refine lv_iconst (v := 4) hx hb dl_27 rfl ?_
    refine lv_isub hx hb dl_28 ?_
    refine lv_icmp_gt (tgt := 457) hx hb dl_29 (by decide) (fun _ => ?_) (fun hgo => ?_)
    · refine lv_iconst (v := 1) hx hb dl_457 rfl ?_
      exact va_forget (fun q hq => hS.2.2 q hq) (W.widen (k := 1033) (n := 8710) (by omega) (by omega) (lw_ret hx hb hr hlk dl_458))
    have h4L : 4 * k + 4 ≤ L := Nat.not_lt.mp (fun q => hgo ((lw_cmp hL hk).mpr q))
    have hfc : 8 + k ≤ room_1.cells ∧ 512 + 6 * k ≤ room_1.slots := ⟨by show 8 + k ≤ 1033; omega, by show 512 + 6 * k ≤ 8710; omega⟩
    have nxt : ∀ (st : St) (mm : Ms) (f : Nat → Int64) (H : Heap) (locs : List Loc) (ls : Array Slot), Rl st mm → lv_has ls 7 [(4, .int (nI (4 * k))), (3, .ref aJ), (2, .ref aM), (1, .ref aX), (0, .ref b)] → va_P D vwC (LWd cA cL aX aF aB aL aP aJ aM aG st mm f) H → va_D (lwA s) (LWd cA cL aX aF aB aL aP aJ aM aG st mm f) → va_S (lwA s) s.heap H locs → W p l e room_1 s m #[Value.ref b] below meth c H locs (8 + (k + 1)) (512 + 6 * (k + 1)) (lw_Z below #[Value.ref b] s) (F0 m 451 ls []) := by
      intro st mm f H locs ls hR hl hP hD hS
      refine lv_iinc (k := 0) (v := nI (4 * (k + 1))) hx hb dl_451 hl rfl ((nI_add (4 * k) 4).trans (niE (by omega))) (by decide) rfl (fun ls hl => ?_)
      refine lv_goto (tgt := 23) hx hb dl_454 (by decide) ?_
      exact ih (L - 4 * (k + 1)) (by omega) (k + 1) rfl (by omega) st mm f H locs ls hR hl hP hD hS
    refine lv_aload_n hx hb dl_32 rfl h0 ?_
    refine lv_iload hx hb dl_33 h4 ?_
    refine va_sld hx hb hX hbl hbA hS (vp_in_nI (n := 4 * k) (by omega) (by omega)) dl_35 ?_
    refine lv_bipush (v := 15) hx hb dl_36 rfl ?_
    refine lv_iand hx hb dl_38 ?_
    obtain ⟨j, hj, ej⟩ := pk_andE (xs (nI (4 * k)).toNatClampNeg) (m := 15) 4 rfl
    match j, hj, ej with
    | 0, _, ej =>
      refine sw_tp (y := nI 0) ej ?_
      refine lv_tableIn (tgt := 100) (off := 61) hx hb dl_39 (by decide) (by decide) (by decide) (by decide) ?_
      refine lv_aload_n hx hb dl_100 rfl (lv_at hl 3 rfl) ?_
      refine lw_rd (i := 4 * k) (j := 1) hx hb hX hbl hbA hS hL (by omega) rfl h0 h4 dl_101 dl_102 dl_104 dl_105 dl_106 ?_
      refine lw_rd (i := 4 * k) (j := 2) hx hb hX hbl hbA hS hL (by omega) rfl h0 h4 dl_107 dl_108 dl_110 dl_111 dl_112 ?_
      refine lw_rd (i := 4 * k) (j := 3) hx hb hX hbl hbA hS hL (by omega) rfl h0 h4 dl_113 dl_114 dl_116 dl_117 dl_118 ?_
      refine sw_callFi (w := CW cA aX aF aB aL aP) (st := st) (wr := [(aJ, .inl (cL, 1, .inr (.inl f)))] ++ MW cA aM aG mm) (rest := []) 1 0 [1, 2, 3, 4, 5] [0, 6, 7] [.int (xs (4 * k + 1)), .int (xs (4 * k + 2)), .int (xs (4 * k + 3))] hx hb hml hown hB hK hN hA hP hD hS rfl rfl (by decide) (by decide) (by decide) (k_X_factory l D cA aX aF aB aL aP st _ (xs (4 * k + 1)) (xs (4 * k + 2)) (xs (4 * k + 3))) cw_Law_19 rfl rfl rfl ⟨Nat.le_of_ble_eq_true rfl, Nat.le_of_ble_eq_true rfl⟩ hfc hl.1 rfl rfl (Nat.le_of_ble_eq_true rfl) dl_119 (fun r u H locs hq hP hD hS => ?_)
      obtain ⟨hr1, hu1⟩ := hq
      rw [hr1]
      rw [hu1] at hP hD
      refine lv_aload_n hx hb dl_122 rfl (lv_at hl 2 rfl) ?_
      refine lw_rd (i := 4 * k) (j := 1) hx hb hX hbl hbA hS hL (by omega) rfl h0 h4 dl_123 dl_124 dl_126 dl_127 dl_128 ?_
      refine lw_rd (i := 4 * k) (j := 2) hx hb hX hbl hbA hS hL (by omega) rfl h0 h4 dl_129 dl_130 dl_132 dl_133 dl_134 ?_
      refine lw_rd (i := 4 * k) (j := 3) hx hb hX hbl hbA hS hL (by omega) rfl h0 h4 dl_135 dl_136 dl_138 dl_139 dl_140 ?_
      refine sw_callFi (w := MW cA aM aG) (st := mm) (wr := [(aJ, .inl (cL, 1, .inr (.inl f)))] ++ CW cA aX aF aB aL aP (cfac (xs (4 * k + 1)) (xs (4 * k + 2)) (xs (4 * k + 3)) st)) (rest := [.int (b2i (psize (xs (4 * k + 1)) (xs (4 * k + 2))))]) 1 4 [1, 2] [0, 3, 4, 5, 6, 7] [.int (xs (4 * k + 1)), .int (xs (4 * k + 2)), .int (xs (4 * k + 3))] hx hb hml hown hB hK hN hA hP hD hS rfl rfl (by decide) (by decide) (by decide) (k_M_factory l D cA aM aG mm _ (xs (4 * k + 1)) (xs (4 * k + 2)) (xs (4 * k + 3))) cw_Law_23 rfl rfl rfl ⟨Nat.le_of_ble_eq_true rfl, Nat.le_of_ble_eq_true rfl⟩ hfc hl.1 rfl rfl (Nat.le_of_ble_eq_true rfl) dl_141 (fun r2 u2 H locs hq hP hD hS => ?_)
      obtain ⟨hr2, hu2⟩ := hq
      rw [hr2]
      rw [hu2] at hP hD
      refine lv_icmp_eq (tgt := 451) hx hb dl_144 (by decide) (fun _ => ?_) (fun hne => absurd (rfl) hne)
      refine W.widen (k := 8 + (k + 1)) (n := 512 + 6 * (k + 1)) (by omega) (by omega) ?_
      exact nxt _ _ _ _ _ ls (fac_sim _ _ _ hR) hl hP hD hS
    | 1, _, ej =>
      refine sw_tp (y := nI 1) ej ?_
      refine lv_tableIn (tgt := 149) (off := 110) hx hb dl_39 (by decide) (by decide) (by decide) (by decide) ?_
      refine lv_aload_n hx hb dl_149 rfl (lv_at hl 3 rfl) ?_
      refine sw_callFi (w := CW cA aX aF aB aL aP) (st := st) (wr := [(aJ, .inl (cL, 1, .inr (.inl f)))] ++ MW cA aM aG mm) (rest := []) 1 0 [1, 2, 3, 4, 5] [0, 6, 7] [] hx hb hml hown hB hK hN hA hP hD hS rfl rfl (by decide) (by decide) (by decide) (k_X_boot l D cA aX aF aB aL aP st _ ) cw_Law_24 rfl rfl rfl ⟨Nat.le_of_ble_eq_true rfl, Nat.le_of_ble_eq_true rfl⟩ hfc hl.1 rfl rfl (Nat.le_of_ble_eq_true rfl) dl_150 (fun r u H locs hq hP hD hS => ?_)
      obtain ⟨hr1, hu1⟩ := hq
      rw [hr1]
      rw [hu1] at hP hD
      refine lv_aload_n hx hb dl_153 rfl (lv_at hl 2 rfl) ?_
      refine sw_callFi (w := MW cA aM aG) (st := mm) (wr := [(aJ, .inl (cL, 1, .inr (.inl f)))] ++ CW cA aX aF aB aL aP ((cboot st).2)) (rest := [.int ((cboot st).1)]) 1 4 [1, 2] [0, 3, 4, 5, 6, 7] [] hx hb hml hown hB hK hN hA hP hD hS rfl rfl (by decide) (by decide) (by decide) (k_M_boot l D cA aM aG mm _ ) cw_Law_28 rfl rfl rfl ⟨Nat.le_of_ble_eq_true rfl, Nat.le_of_ble_eq_true rfl⟩ hfc hl.1 rfl rfl (Nat.le_of_ble_eq_true rfl) dl_154 (fun r2 u2 H locs hq hP hD hS => ?_)
      obtain ⟨hr2, hu2⟩ := hq
      rw [hr2]
      rw [hu2] at hP hD
      refine lv_icmp_eq (tgt := 451) hx hb dl_157 (by decide) (fun _ => ?_) (fun hne => absurd ((boot_sim hR).1) hne)
      refine W.widen (k := 8 + (k + 1)) (n := 512 + 6 * (k + 1)) (by omega) (by omega) ?_
      exact nxt _ _ _ _ _ ls ((boot_sim hR).2) hl hP hD hS
    | 2, _, ej =>
      refine sw_tp (y := nI 2) ej ?_
      refine lv_tableIn (tgt := 162) (off := 123) hx hb dl_39 (by decide) (by decide) (by decide) (by decide) ?_
      refine lv_aload_n hx hb dl_162 rfl (lv_at hl 3 rfl) ?_
      refine sw_callFi (w := CW cA aX aF aB aL aP) (st := st) (wr := [(aJ, .inl (cL, 1, .inr (.inl f)))] ++ MW cA aM aG mm) (rest := []) 1 0 [1, 2, 3, 4, 5] [0, 6, 7] [] hx hb hml hown hB hK hN hA hP hD hS rfl rfl (by decide) (by decide) (by decide) (k_X_off l D cA aX aF aB aL aP st _ ) cw_Law_29 rfl rfl rfl ⟨Nat.le_of_ble_eq_true rfl, Nat.le_of_ble_eq_true rfl⟩ hfc hl.1 rfl rfl (Nat.le_of_ble_eq_true rfl) dl_163 (fun r u H locs hq hP hD hS => ?_)
      obtain ⟨hr1, hu1⟩ := hq
      rw [hr1]
      rw [hu1] at hP hD
      refine lv_aload_n hx hb dl_166 rfl (lv_at hl 2 rfl) ?_
      refine sw_callFi (w := MW cA aM aG) (st := mm) (wr := [(aJ, .inl (cL, 1, .inr (.inl f)))] ++ CW cA aX aF aB aL aP (closs st)) (rest := [.int (b2i st.2.1.1)]) 1 4 [1, 2] [0, 3, 4, 5, 6, 7] [] hx hb hml hown hB hK hN hA hP hD hS rfl rfl (by decide) (by decide) (by decide) (k_M_off l D cA aM aG mm _ ) cw_Law_33 rfl rfl rfl ⟨Nat.le_of_ble_eq_true rfl, Nat.le_of_ble_eq_true rfl⟩ hfc hl.1 rfl rfl (Nat.le_of_ble_eq_true rfl) dl_167 (fun r2 u2 H locs hq hP hD hS => ?_)
      obtain ⟨hr2, hu2⟩ := hq
      rw [hr2]
      rw [hu2] at hP hD
      refine lv_icmp_eq (tgt := 451) hx hb dl_170 (by decide) (fun _ => ?_) (fun hne => absurd (congrArg b2i (off_sim hR).1) hne)
      refine W.widen (k := 8 + (k + 1)) (n := 512 + 6 * (k + 1)) (by omega) (by omega) ?_
      exact nxt _ _ _ _ _ ls ((off_sim hR).2) hl hP hD hS
    | 3, _, ej =>
      refine sw_tp (y := nI 3) ej ?_
      refine lv_tableIn (tgt := 175) (off := 136) hx hb dl_39 (by decide) (by decide) (by decide) (by decide) ?_
      refine lv_aload_n hx hb dl_175 rfl (lv_at hl 3 rfl) ?_
      refine lw_rd (i := 4 * k) (j := 1) hx hb hX hbl hbA hS hL (by omega) rfl h0 h4 dl_176 dl_177 dl_179 dl_180 dl_181 ?_
      refine sw_callFi (w := CW cA aX aF aB aL aP) (st := st) (wr := [(aJ, .inl (cL, 1, .inr (.inl f)))] ++ MW cA aM aG mm) (rest := []) 1 0 [1, 2, 3, 4, 5] [0, 6, 7] [.int (xs (4 * k + 1))] hx hb hml hown hB hK hN hA hP hD hS rfl rfl (by decide) (by decide) (by decide) (k_X_cut l D cA aX aF aB aL aP st _ (xs (4 * k + 1))) cw_Law_34 rfl rfl rfl ⟨Nat.le_of_ble_eq_true rfl, Nat.le_of_ble_eq_true rfl⟩ hfc hl.1 rfl rfl (Nat.le_of_ble_eq_true rfl) dl_182 (fun r u H locs hq hP hD hS => ?_)
      obtain ⟨hr1, hu1⟩ := hq
      rw [hr1]
      rw [hu1] at hP hD
      refine lv_aload_n hx hb dl_185 rfl (lv_at hl 2 rfl) ?_
      refine lw_rd (i := 4 * k) (j := 1) hx hb hX hbl hbA hS hL (by omega) rfl h0 h4 dl_186 dl_187 dl_189 dl_190 dl_191 ?_
      refine sw_callFi (w := MW cA aM aG) (st := mm) (wr := [(aJ, .inl (cL, 1, .inr (.inl f)))] ++ CW cA aX aF aB aL aP (ccut (xs (4 * k + 1)) st)) (rest := [.int (b2i (ccutok (xs (4 * k + 1))))]) 1 4 [1, 2] [0, 3, 4, 5, 6, 7] [.int (xs (4 * k + 1))] hx hb hml hown hB hK hN hA hP hD hS rfl rfl (by decide) (by decide) (by decide) (k_M_cut l D cA aM aG mm _ (xs (4 * k + 1))) cw_Law_38 rfl rfl rfl ⟨Nat.le_of_ble_eq_true rfl, Nat.le_of_ble_eq_true rfl⟩ hfc hl.1 rfl rfl (Nat.le_of_ble_eq_true rfl) dl_192 (fun r2 u2 H locs hq hP hD hS => ?_)
      obtain ⟨hr2, hu2⟩ := hq
      rw [hr2]
      rw [hu2] at hP hD
      refine lv_icmp_eq (tgt := 451) hx hb dl_195 (by decide) (fun _ => ?_) (fun hne => absurd (rfl) hne)
      refine W.widen (k := 8 + (k + 1)) (n := 512 + 6 * (k + 1)) (by omega) (by omega) ?_
      exact nxt _ _ _ _ _ ls (cut_sim _ hR) hl hP hD hS
    | 4, _, ej =>
      refine sw_tp (y := nI 4) ej ?_
      refine lv_tableIn (tgt := 200) (off := 161) hx hb dl_39 (by decide) (by decide) (by decide) (by decide) ?_
      refine lv_aload_n hx hb dl_200 rfl (lv_at hl 3 rfl) ?_
      refine sw_callFi (w := CW cA aX aF aB aL aP) (st := st) (wr := [(aJ, .inl (cL, 1, .inr (.inl f)))] ++ MW cA aM aG mm) (rest := []) 1 0 [1, 2, 3, 4, 5] [0, 6, 7] [] hx hb hml hown hB hK hN hA hP hD hS rfl rfl (by decide) (by decide) (by decide) (k_X_safe l D cA aX aF aB aL aP st _ ) cw_Law_39 rfl rfl rfl ⟨Nat.le_of_ble_eq_true rfl, Nat.le_of_ble_eq_true rfl⟩ hfc hl.1 rfl rfl (Nat.le_of_ble_eq_true rfl) dl_201 (fun r u H locs hq hP hD hS => ?_)
      obtain ⟨hr1, hu1⟩ := hq
      rw [hr1]
      rw [hu1] at hP hD
      refine lv_aload_n hx hb dl_204 rfl (lv_at hl 2 rfl) ?_
      refine sw_callFi (w := MW cA aM aG) (st := mm) (wr := [(aJ, .inl (cL, 1, .inr (.inl f)))] ++ CW cA aX aF aB aL aP (((st.1.1, -1, st.1.2.2.1, st.1.2.2.2), st.2))) (rest := [.int (st.1.2.1)]) 1 4 [1, 2] [0, 3, 4, 5, 6, 7] [] hx hb hml hown hB hK hN hA hP hD hS rfl rfl (by decide) (by decide) (by decide) (k_M_safe l D cA aM aG mm _ ) cw_Law_42 rfl rfl rfl ⟨Nat.le_of_ble_eq_true rfl, Nat.le_of_ble_eq_true rfl⟩ hfc hl.1 rfl rfl (Nat.le_of_ble_eq_true rfl) dl_205 (fun r2 u2 H locs hq hP hD hS => ?_)
      obtain ⟨hr2, hu2⟩ := hq
      rw [hr2]
      rw [hu2] at hP hD
      refine lv_icmp_eq (tgt := 451) hx hb dl_208 (by decide) (fun _ => ?_) (fun hne => absurd ((safe_sim hR).1) hne)
      refine W.widen (k := 8 + (k + 1)) (n := 512 + 6 * (k + 1)) (by omega) (by omega) ?_
      exact nxt _ _ _ _ _ ls ((safe_sim hR).2) hl hP hD hS
    | 5, _, ej =>
      refine sw_tp (y := nI 5) ej ?_
      refine lv_tableIn (tgt := 213) (off := 174) hx hb dl_39 (by decide) (by decide) (by decide) (by decide) ?_
      refine lv_aload_n hx hb dl_213 rfl (lv_at hl 3 rfl) ?_
      refine lw_rd (i := 4 * k) (j := 1) hx hb hX hbl hbA hS hL (by omega) rfl h0 h4 dl_214 dl_215 dl_217 dl_218 dl_219 ?_
      refine lw_rd (i := 4 * k) (j := 2) hx hb hX hbl hbA hS hL (by omega) rfl h0 h4 dl_220 dl_221 dl_223 dl_224 dl_225 ?_
      refine sw_callFi (w := CW cA aX aF aB aL aP) (st := st) (wr := [(aJ, .inl (cL, 1, .inr (.inl f)))] ++ MW cA aM aG mm) (rest := []) 1 0 [1, 2, 3, 4, 5] [0, 6, 7] [.int (xs (4 * k + 1)), .int (xs (4 * k + 2))] hx hb hml hown hB hK hN hA hP hD hS rfl rfl (by decide) (by decide) (by decide) (k_X_begin l D cA aX aF aB aL aP st _ (xs (4 * k + 1)) (xs (4 * k + 2))) cw_Law_43 rfl rfl rfl ⟨Nat.le_of_ble_eq_true rfl, Nat.le_of_ble_eq_true rfl⟩ hfc hl.1 rfl rfl (Nat.le_of_ble_eq_true rfl) dl_226 (fun r u H locs hq hP hD hS => ?_)
      obtain ⟨hr1, hu1⟩ := hq
      rw [hr1]
      rw [hu1] at hP hD
      refine lv_aload_n hx hb dl_229 rfl (lv_at hl 2 rfl) ?_
      refine lw_rd (i := 4 * k) (j := 1) hx hb hX hbl hbA hS hL (by omega) rfl h0 h4 dl_230 dl_231 dl_233 dl_234 dl_235 ?_
      refine lw_rd (i := 4 * k) (j := 2) hx hb hX hbl hbA hS hL (by omega) rfl h0 h4 dl_236 dl_237 dl_239 dl_240 dl_241 ?_
      refine sw_callFi (w := MW cA aM aG) (st := mm) (wr := [(aJ, .inl (cL, 1, .inr (.inl f)))] ++ CW cA aX aF aB aL aP ((cbegin (xs (4 * k + 1)) (xs (4 * k + 2)) st).2)) (rest := [.int ((cbegin (xs (4 * k + 1)) (xs (4 * k + 2)) st).1)]) 1 4 [1, 2] [0, 3, 4, 5, 6, 7] [.int (xs (4 * k + 1)), .int (xs (4 * k + 2))] hx hb hml hown hB hK hN hA hP hD hS rfl rfl (by decide) (by decide) (by decide) (k_M_begin l D cA aM aG mm _ (xs (4 * k + 1)) (xs (4 * k + 2))) cw_Law_47 rfl rfl rfl ⟨Nat.le_of_ble_eq_true rfl, Nat.le_of_ble_eq_true rfl⟩ hfc hl.1 rfl rfl (Nat.le_of_ble_eq_true rfl) dl_242 (fun r2 u2 H locs hq hP hD hS => ?_)
      obtain ⟨hr2, hu2⟩ := hq
      rw [hr2]
      rw [hu2] at hP hD
      refine lv_icmp_eq (tgt := 451) hx hb dl_245 (by decide) (fun _ => ?_) (fun hne => absurd ((begin_sim _ _ hR).1) hne)
      refine W.widen (k := 8 + (k + 1)) (n := 512 + 6 * (k + 1)) (by omega) (by omega) ?_
      exact nxt _ _ _ _ _ ls ((begin_sim _ _ hR).2) hl hP hD hS
    | 6, _, ej =>
      refine sw_tp (y := nI 6) ej ?_
      refine lv_tableIn (tgt := 250) (off := 211) hx hb dl_39 (by decide) (by decide) (by decide) (by decide) ?_
      refine lv_aload_n hx hb dl_250 rfl (lv_at hl 3 rfl) ?_
      refine lw_rd (i := 4 * k) (j := 1) hx hb hX hbl hbA hS hL (by omega) rfl h0 h4 dl_251 dl_252 dl_254 dl_255 dl_256 ?_
      refine lv_i2l (v := (xs (4 * k + 1)).toInt64) hx hb dl_257 rfl ?_
      refine lv_bipush (v := 32) hx hb dl_258 rfl ?_
      refine lv_lshl hx hb dl_260 rfl ?_
      refine lw_rd (i := 4 * k) (j := 2) hx hb hX hbl hbA hS hL (by omega) rfl h0 h4 dl_261 dl_262 dl_264 dl_265 dl_266 ?_
      refine lv_i2l (v := (xs (4 * k + 2)).toInt64) hx hb dl_267 rfl ?_
      refine lv_ldc2 (v := 4294967295) hx hb hown (hB _ wm_502) dl_268 ?_
      refine lv_land hx hb dl_271 ?_
      refine lv_lor hx hb dl_272 ?_
      refine lw_rd (i := 4 * k) (j := 3) hx hb hX hbl hbA hS hL (by omega) rfl h0 h4 dl_273 dl_274 dl_276 dl_277 dl_278 ?_
      refine sw_callFi (w := CW cA aX aF aB aL aP) (st := st) (wr := [(aJ, .inl (cL, 1, .inr (.inl f)))] ++ MW cA aM aG mm) (rest := []) 1 0 [1, 2, 3, 4, 5] [0, 6, 7] [.long (lw_long (xs (4 * k + 1)) (xs (4 * k + 2))), .int (xs (4 * k + 3))] hx hb hml hown hB hK hN hA hP hD hS rfl rfl (by decide) (by decide) (by decide) (k_X_feed l D cA aX aF aB aL aP st _ (lw_long (xs (4 * k + 1)) (xs (4 * k + 2))) (xs (4 * k + 3)) (rl_okX hR)) cw_Law_50 rfl rfl rfl ⟨Nat.le_of_ble_eq_true rfl, Nat.le_of_ble_eq_true rfl⟩ hfc hl.1 rfl rfl (Nat.le_of_ble_eq_true rfl) dl_279 (fun r u H locs hq hP hD hS => ?_)
      obtain ⟨hr1, hu1⟩ := hq
      rw [hr1]
      rw [hu1] at hP hD
      refine lv_aload_n hx hb dl_282 rfl (lv_at hl 2 rfl) ?_
      refine lw_rd (i := 4 * k) (j := 1) hx hb hX hbl hbA hS hL (by omega) rfl h0 h4 dl_283 dl_284 dl_286 dl_287 dl_288 ?_
      refine lv_i2l (v := (xs (4 * k + 1)).toInt64) hx hb dl_289 rfl ?_
      refine lv_bipush (v := 32) hx hb dl_290 rfl ?_
      refine lv_lshl hx hb dl_292 rfl ?_
      refine lw_rd (i := 4 * k) (j := 2) hx hb hX hbl hbA hS hL (by omega) rfl h0 h4 dl_293 dl_294 dl_296 dl_297 dl_298 ?_
      refine lv_i2l (v := (xs (4 * k + 2)).toInt64) hx hb dl_299 rfl ?_
      refine lv_ldc2 (v := 4294967295) hx hb hown (hB _ wm_502) dl_300 ?_
      refine lv_land hx hb dl_303 ?_
      refine lv_lor hx hb dl_304 ?_
      refine lw_rd (i := 4 * k) (j := 3) hx hb hX hbl hbA hS hL (by omega) rfl h0 h4 dl_305 dl_306 dl_308 dl_309 dl_310 ?_
      refine sw_callFi (w := MW cA aM aG) (st := mm) (wr := [(aJ, .inl (cL, 1, .inr (.inl f)))] ++ CW cA aX aF aB aL aP ((cfeed (lw_long (xs (4 * k + 1)) (xs (4 * k + 2))) (xs (4 * k + 3)) st).2)) (rest := [.int ((cfeed (lw_long (xs (4 * k + 1)) (xs (4 * k + 2))) (xs (4 * k + 3)) st).1)]) 1 4 [1, 2] [0, 3, 4, 5, 6, 7] [.long (lw_long (xs (4 * k + 1)) (xs (4 * k + 2))), .int (xs (4 * k + 3))] hx hb hml hown hB hK hN hA hP hD hS rfl rfl (by decide) (by decide) (by decide) (k_M_feed l D cA aM aG mm _ (lw_long (xs (4 * k + 1)) (xs (4 * k + 2))) (xs (4 * k + 3)) (rl_okM hR)) cw_Law_54 rfl rfl rfl ⟨Nat.le_of_ble_eq_true rfl, Nat.le_of_ble_eq_true rfl⟩ hfc hl.1 rfl rfl (Nat.le_of_ble_eq_true rfl) dl_311 (fun r2 u2 H locs hq hP hD hS => ?_)
      obtain ⟨hr2, hu2⟩ := hq
      rw [hr2]
      rw [hu2] at hP hD
      refine lv_icmp_eq (tgt := 451) hx hb dl_314 (by decide) (fun _ => ?_) (fun hne => absurd ((feed_sim _ _ hR).1) hne)
      refine W.widen (k := 8 + (k + 1)) (n := 512 + 6 * (k + 1)) (by omega) (by omega) ?_
      exact nxt _ _ _ _ _ ls ((feed_sim _ _ hR).2) hl hP hD hS
    | 7, _, ej =>
      refine sw_tp (y := nI 7) ej ?_
      refine lv_tableIn (tgt := 319) (off := 280) hx hb dl_39 (by decide) (by decide) (by decide) (by decide) ?_
      refine lv_aload_n hx hb dl_319 rfl (lv_at hl 3 rfl) ?_
      refine sw_callFi (w := CW cA aX aF aB aL aP) (st := st) (wr := [(aJ, .inl (cL, 1, .inr (.inl f)))] ++ MW cA aM aG mm) (rest := []) 1 0 [1, 2, 3, 4, 5] [0, 6, 7] [] hx hb hml hown hB hK hN hA hP hD hS rfl rfl (by decide) (by decide) (by decide) (k_X_request l D cA aX aF aB aL aP st _ ) cw_Law_55 rfl rfl rfl ⟨Nat.le_of_ble_eq_true rfl, Nat.le_of_ble_eq_true rfl⟩ hfc hl.1 rfl rfl (Nat.le_of_ble_eq_true rfl) dl_320 (fun r u H locs hq hP hD hS => ?_)
      obtain ⟨hr1, hu1⟩ := hq
      rw [hr1]
      rw [hu1] at hP hD
      refine lv_aload_n hx hb dl_323 rfl (lv_at hl 2 rfl) ?_
      refine sw_callFi (w := MW cA aM aG) (st := mm) (wr := [(aJ, .inl (cL, 1, .inr (.inl f)))] ++ CW cA aX aF aB aL aP ((creq st).2)) (rest := [.int ((creq st).1)]) 1 4 [1, 2] [0, 3, 4, 5, 6, 7] [] hx hb hml hown hB hK hN hA hP hD hS rfl rfl (by decide) (by decide) (by decide) (k_M_request l D cA aM aG mm _ ) cw_Law_58 rfl rfl rfl ⟨Nat.le_of_ble_eq_true rfl, Nat.le_of_ble_eq_true rfl⟩ hfc hl.1 rfl rfl (Nat.le_of_ble_eq_true rfl) dl_324 (fun r2 u2 H locs hq hP hD hS => ?_)
      obtain ⟨hr2, hu2⟩ := hq
      rw [hr2]
      rw [hu2] at hP hD
      refine lv_icmp_eq (tgt := 451) hx hb dl_327 (by decide) (fun _ => ?_) (fun hne => absurd ((req_sim hR).1) hne)
      refine W.widen (k := 8 + (k + 1)) (n := 512 + 6 * (k + 1)) (by omega) (by omega) ?_
      exact nxt _ _ _ _ _ ls ((req_sim hR).2) hl hP hD hS
    | 8, _, ej =>
      refine sw_tp (y := nI 8) ej ?_
      refine lv_tableIn (tgt := 332) (off := 293) hx hb dl_39 (by decide) (by decide) (by decide) (by decide) ?_
      refine lv_aload_n hx hb dl_332 rfl (lv_at hl 3 rfl) ?_
      refine sw_callFi (w := CW cA aX aF aB aL aP) (st := st) (wr := [(aJ, .inl (cL, 1, .inr (.inl f)))] ++ MW cA aM aG mm) (rest := []) 1 0 [1, 2, 3, 4, 5] [0, 6, 7] [] hx hb hml hown hB hK hN hA hP hD hS rfl rfl (by decide) (by decide) (by decide) (k_X_confirm l D cA aX aF aB aL aP st _ ) cw_Law_59 rfl rfl rfl ⟨Nat.le_of_ble_eq_true rfl, Nat.le_of_ble_eq_true rfl⟩ hfc hl.1 rfl rfl (Nat.le_of_ble_eq_true rfl) dl_333 (fun r u H locs hq hP hD hS => ?_)
      obtain ⟨hr1, hu1⟩ := hq
      rw [hr1]
      rw [hu1] at hP hD
      refine lv_aload_n hx hb dl_336 rfl (lv_at hl 2 rfl) ?_
      refine sw_callFi (w := MW cA aM aG) (st := mm) (wr := [(aJ, .inl (cL, 1, .inr (.inl f)))] ++ CW cA aX aF aB aL aP ((ccon st).2)) (rest := [.int ((ccon st).1)]) 1 4 [1, 2] [0, 3, 4, 5, 6, 7] [] hx hb hml hown hB hK hN hA hP hD hS rfl rfl (by decide) (by decide) (by decide) (k_M_confirm l D cA aM aG mm _ ) cw_Law_62 rfl rfl rfl ⟨Nat.le_of_ble_eq_true rfl, Nat.le_of_ble_eq_true rfl⟩ hfc hl.1 rfl rfl (Nat.le_of_ble_eq_true rfl) dl_337 (fun r2 u2 H locs hq hP hD hS => ?_)
      obtain ⟨hr2, hu2⟩ := hq
      rw [hr2]
      rw [hu2] at hP hD
      refine lv_icmp_eq (tgt := 451) hx hb dl_340 (by decide) (fun _ => ?_) (fun hne => absurd ((con_sim hR).1) hne)
      refine W.widen (k := 8 + (k + 1)) (n := 512 + 6 * (k + 1)) (by omega) (by omega) ?_
      exact nxt _ _ _ _ _ ls ((con_sim hR).2) hl hP hD hS
    | 9, _, ej =>
      refine sw_tp (y := nI 9) ej ?_
      refine lv_tableIn (tgt := 345) (off := 306) hx hb dl_39 (by decide) (by decide) (by decide) (by decide) ?_
      refine lv_aload_n hx hb dl_345 rfl (lv_at hl 3 rfl) ?_
      refine lw_rd (i := 4 * k) (j := 1) hx hb hX hbl hbA hS hL (by omega) rfl h0 h4 dl_346 dl_347 dl_349 dl_350 dl_351 ?_
      refine lv_aload_n hx hb dl_352 rfl (lv_at hl 1 rfl) ?_
      refine sw_callH (w := HWd cA cL aX aF aB aL aP aJ) (st := (st, f)) (wr := MW cA aM aG mm) (rest := []) [1, 2, 3, 4, 5, 0] [6, 7] [.ref aX, .int (xs (4 * k + 1)), .ref aJ] hx hb hml hown hB hcwH hTA hAo hK2 hN hA hP hD hS rfl rfl (by decide) (by decide) (by decide) (k_Law_byteAt l hfl D cA cL aX aF aB aL aP aJ st f _ (xs (4 * k + 1))) ⟨Nat.le_of_ble_eq_true rfl, Nat.le_of_ble_eq_true rfl⟩ ⟨by show 8 + k + 1 ≤ 1033; omega, by show 512 + 6 * k + 6 ≤ 8710; omega⟩ hl.1 rfl rfl (Nat.le_of_ble_eq_true rfl) dl_353 (fun r u H locs hq hP hD hS => ?_)
      obtain ⟨u1, f2⟩ := u
      obtain ⟨hu1, hq⟩ := hq
      have hu1 : u1 = st := hu1
      rw [hu1] at hP hD
      have hf9 : 8 + k + 1 ≤ room_1.cells ∧ 512 + 6 * k + 6 ≤ room_1.slots := ⟨by show 8 + k + 1 ≤ 1033; omega, by show 512 + 6 * k + 6 ≤ 8710; omega⟩
      refine lv_istore hx hb dl_356 hl (by decide) rfl (fun ls hl => ?_)
      have hl : lv_has ls 7 [(5, .int r), (4, .int (nI (4 * k))), (3, .ref aJ), (2, .ref aM), (1, .ref aX), (0, .ref b)] := hl
      have h0 := lv_at hl 5 rfl
      have h4 := lv_at hl 1 rfl
      refine lv_aload_n hx hb dl_358 rfl (lv_at hl 3 rfl) ?_
      refine lw_rd (i := 4 * k) (j := 1) hx hb hX hbl hbA hS hL (by omega) rfl h0 h4 dl_359 dl_360 dl_362 dl_363 dl_364 ?_
      refine sw_callFi (w := MW cA aM aG) (st := mm) (wr := [(aJ, .inl (cL, 1, .inr (.inl f2)))] ++ CW cA aX aF aB aL aP st) (rest := []) 0 4 [0, 1] [7, 2, 3, 4, 5, 6] [.int (xs (4 * k + 1))] hx hb hml hown hB hK hN hA hP hD hS rfl rfl (by decide) (by decide) (by decide) (k_M_byteAt l D cA aM aG mm _ (xs (4 * k + 1))) cw_Law_68 rfl rfl rfl ⟨Nat.le_of_ble_eq_true rfl, Nat.le_of_ble_eq_true rfl⟩ hf9 hl.1 rfl rfl (Nat.le_of_ble_eq_true rfl) dl_365 (fun r2 u2 H locs hq2 hP hD hS => ?_)
      obtain ⟨hr2, hu2⟩ := hq2
      rw [hr2]
      rw [hu2] at hP hD
      refine lv_istore hx hb dl_368 hl (by decide) rfl (fun ls hl => ?_)
      have hl : lv_has ls 7 [(6, .int (mbyte (xs (4 * k + 1)) mm).1), (5, .int r), (4, .int (nI (4 * k))), (3, .ref aJ), (2, .ref aM), (1, .ref aX), (0, .ref b)] := hl
      refine lv_aload_n hx hb dl_370 rfl (lv_at hl 4 rfl) ?_
      refine sw_callFi (w := MW cA aM aG) (st := (mbyte (xs (4 * k + 1)) mm).2) (wr := [(aJ, .inl (cL, 1, .inr (.inl f2)))] ++ CW cA aX aF aB aL aP st) (rest := []) 6 4 [6, 7] [0, 1, 2, 3, 4, 5] [] hx hb hml hown hB hK hN hA hP hD hS rfl rfl (by decide) (by decide) (by decide) (k_M_thrown l D cA aM aG _ _) cw_Law_69 rfl rfl rfl ⟨Nat.le_of_ble_eq_true rfl, Nat.le_of_ble_eq_true rfl⟩ hf9 hl.1 rfl rfl (Nat.le_of_ble_eq_true rfl) dl_371 (fun r3 u3 H locs hq3 hP hD hS => ?_)
      obtain ⟨hr3, hu3⟩ := hq3
      rw [hr3]
      rw [hu3] at hP hD
      have hlc : lv_has ls 7 [(4, .int (nI (4 * k))), (3, .ref aJ), (2, .ref aM), (1, .ref aX), (0, .ref b)] := lv_sub hl [2, 3, 4, 5, 6] rfl
      refine lv_iload hx hb dl_374 (lv_at hl 1 rfl) ?_
      have fin : W p l e room_1 s m #[Value.ref b] below meth c H locs (8 + k + 1) (512 + 6 * k + 6) (lw_Z below #[Value.ref b] s) (F0 m 398 ls []) := by
        refine lv_goto (tgt := 451) hx hb dl_398 (by decide) ?_
        refine W.widen (k := 8 + (k + 1)) (n := 512 + 6 * (k + 1)) (by omega) (by omega) ?_
        exact nxt _ _ _ _ _ ls (byte_sim _ hR) hlc hP hD hS
      rcases hq with ⟨hin, hr0, hv0⟩ | ⟨hno, hr0⟩
      · refine lv_icmp_eq (tgt := 381) hx hb dl_376 (by decide) (fun _ => ?_) (fun hne => absurd (by rw [mb_in hin, hr0] <;> rfl) hne)
        refine lv_iload hx hb dl_381 (lv_at hl 1 rfl) ?_
        refine lv_if_ne (tgt := 398) hx hb dl_383 (by decide) (fun hne => absurd hr0 hne) (fun _ => ?_)
        refine lv_aload_n hx hb dl_386 rfl (lv_at hl 3 rfl) ?_
        refine lv_iconst (v := nI 0) hx hb dl_387 rfl ?_
        refine va_lald hx hb hK2 hP 0 1 rfl rfl (vp_in_nI (n := 0) (by decide) (by decide)) dl_388 ?_
        refine lv_iload hx hb dl_389 (lv_at hl 0 rfl) ?_
        refine lv_i2l hx hb dl_391 rfl ?_
        refine W.lcmp hx hb dl_392 ?_
        have e9 : f2 (nI 0).toNatClampNeg = (mbyte (xs (4 * k + 1)) mm).1.toInt64 := by
          rw [mb_in hin]
          show f2 0 = (mm.1.1.1 _).toInt64
          rw [hR.1]
          exact hv0
        rw [e9, lg_cmp_self]
        exact lv_if_eq (tgt := 398) hx hb dl_393 (by decide) (fun _ => fin) (fun hne => absurd rfl hne)
      · refine lv_icmp_eq (tgt := 381) hx hb dl_376 (by decide) (fun _ => ?_) (fun hne => absurd (by rw [mb_no hno, hr0]) hne)
        refine lv_iload hx hb dl_381 (lv_at hl 1 rfl) ?_
        exact lv_if_ne (tgt := 398) hx hb dl_383 (by decide) (fun _ => fin) (fun he => absurd (hr0.symm.trans he) (by decide))
    | 10, _, ej =>
      refine sw_tp (y := nI 10) ej ?_
      refine lv_tableIn (tgt := 401) (off := 362) hx hb dl_39 (by decide) (by decide) (by decide) (by decide) ?_
      refine lv_aload_n hx hb dl_401 rfl (lv_at hl 3 rfl) ?_
      refine lw_rd (i := 4 * k) (j := 1) hx hb hX hbl hbA hS hL (by omega) rfl h0 h4 dl_402 dl_403 dl_405 dl_406 dl_407 ?_
      refine sw_callFi (w := CW cA aX aF aB aL aP) (st := st) (wr := [(aJ, .inl (cL, 1, .inr (.inl f)))] ++ MW cA aM aG mm) (rest := []) 1 0 [1, 2, 3, 4, 5] [0, 6, 7] [.int (xs (4 * k + 1))] hx hb hml hown hB hK hN hA hP hD hS rfl rfl (by decide) (by decide) (by decide) (k_X_version l D cA aX aF aB aL aP st _ (xs (4 * k + 1))) cw_Law_72 rfl rfl rfl ⟨Nat.le_of_ble_eq_true rfl, Nat.le_of_ble_eq_true rfl⟩ hfc hl.1 rfl rfl (Nat.le_of_ble_eq_true rfl) dl_408 (fun r u H locs hq hP hD hS => ?_)
      obtain ⟨hr1, hu1⟩ := hq
      rw [hr1]
      rw [hu1] at hP hD
      refine lv_aload_n hx hb dl_411 rfl (lv_at hl 2 rfl) ?_
      refine lw_rd (i := 4 * k) (j := 1) hx hb hX hbl hbA hS hL (by omega) rfl h0 h4 dl_412 dl_413 dl_415 dl_416 dl_417 ?_
      refine sw_callFi (w := MW cA aM aG) (st := mm) (wr := [(aJ, .inl (cL, 1, .inr (.inl f)))] ++ CW cA aX aF aB aL aP (st)) (rest := [.int (cver (xs (4 * k + 1)) st)]) 1 4 [1, 2] [0, 3, 4, 5, 6, 7] [.int (xs (4 * k + 1))] hx hb hml hown hB hK hN hA hP hD hS rfl rfl (by decide) (by decide) (by decide) (k_M_version l D cA aM aG mm _ (xs (4 * k + 1))) cw_Law_75 rfl rfl rfl ⟨Nat.le_of_ble_eq_true rfl, Nat.le_of_ble_eq_true rfl⟩ hfc hl.1 rfl rfl (Nat.le_of_ble_eq_true rfl) dl_418 (fun r2 u2 H locs hq hP hD hS => ?_)
      obtain ⟨hr2, hu2⟩ := hq
      rw [hr2]
      rw [hu2] at hP hD
      refine lv_icmp_eq (tgt := 451) hx hb dl_421 (by decide) (fun _ => ?_) (fun hne => absurd (ver_sim _ hR) hne)
      refine W.widen (k := 8 + (k + 1)) (n := 512 + 6 * (k + 1)) (by omega) (by omega) ?_
      exact nxt _ _ _ _ _ ls (rl_mr0 hR) hl hP hD hS
    | 11, _, ej =>
      refine sw_tp (y := nI 11) ej ?_
      refine lv_tableIn (tgt := 426) (off := 387) hx hb dl_39 (by decide) (by decide) (by decide) (by decide) ?_
      refine lv_aload_n hx hb dl_426 rfl (lv_at hl 3 rfl) ?_
      refine lw_rd (i := 4 * k) (j := 1) hx hb hX hbl hbA hS hL (by omega) rfl h0 h4 dl_427 dl_428 dl_430 dl_431 dl_432 ?_
      refine sw_callFi (w := CW cA aX aF aB aL aP) (st := st) (wr := [(aJ, .inl (cL, 1, .inr (.inl f)))] ++ MW cA aM aG mm) (rest := []) 1 0 [1, 2, 3, 4, 5] [0, 6, 7] [.int (xs (4 * k + 1))] hx hb hml hown hB hK hN hA hP hD hS rfl rfl (by decide) (by decide) (by decide) (k_X_state l D cA aX aF aB aL aP st _ (xs (4 * k + 1))) cw_Law_76 rfl rfl rfl ⟨Nat.le_of_ble_eq_true rfl, Nat.le_of_ble_eq_true rfl⟩ hfc hl.1 rfl rfl (Nat.le_of_ble_eq_true rfl) dl_433 (fun r u H locs hq hP hD hS => ?_)
      obtain ⟨hr1, hu1⟩ := hq
      rw [hr1]
      rw [hu1] at hP hD
      refine lv_aload_n hx hb dl_436 rfl (lv_at hl 2 rfl) ?_
      refine lw_rd (i := 4 * k) (j := 1) hx hb hX hbl hbA hS hL (by omega) rfl h0 h4 dl_437 dl_438 dl_440 dl_441 dl_442 ?_
      refine sw_callFi (w := MW cA aM aG) (st := mm) (wr := [(aJ, .inl (cL, 1, .inr (.inl f)))] ++ CW cA aX aF aB aL aP (st)) (rest := [.int (cstate (xs (4 * k + 1)) st)]) 1 4 [1, 2] [0, 3, 4, 5, 6, 7] [.int (xs (4 * k + 1))] hx hb hml hown hB hK hN hA hP hD hS rfl rfl (by decide) (by decide) (by decide) (k_M_state l D cA aM aG mm _ (xs (4 * k + 1))) cw_Law_79 rfl rfl rfl ⟨Nat.le_of_ble_eq_true rfl, Nat.le_of_ble_eq_true rfl⟩ hfc hl.1 rfl rfl (Nat.le_of_ble_eq_true rfl) dl_443 (fun r2 u2 H locs hq hP hD hS => ?_)
      obtain ⟨hr2, hu2⟩ := hq
      rw [hr2]
      rw [hu2] at hP hD
      refine lv_icmp_eq (tgt := 451) hx hb dl_446 (by decide) (fun _ => ?_) (fun hne => absurd (state_sim _ hR) hne)
      refine W.widen (k := 8 + (k + 1)) (n := 512 + 6 * (k + 1)) (by omega) (by omega) ?_
      exact nxt _ _ _ _ _ ls (rl_mr0 hR) hl hP hD hS
    | 12, _, ej =>
      refine sw_tp (y := nI 12) ej ?_
      refine lv_tableOut (tgt := 451) hx hb dl_39 (by decide) (by decide) ?_
      refine W.widen (k := 8 + (k + 1)) (n := 512 + 6 * (k + 1)) (by omega) (by omega) ?_
      exact nxt _ _ _ _ _ ls hR hl hP hD hS
    | 13, _, ej =>
      refine sw_tp (y := nI 13) ej ?_
      refine lv_tableOut (tgt := 451) hx hb dl_39 (by decide) (by decide) ?_
      refine W.widen (k := 8 + (k + 1)) (n := 512 + 6 * (k + 1)) (by omega) (by omega) ?_
      exact nxt _ _ _ _ _ ls hR hl hP hD hS
    | 14, _, ej =>
      refine sw_tp (y := nI 14) ej ?_
      refine lv_tableOut (tgt := 451) hx hb dl_39 (by decide) (by decide) ?_
      refine W.widen (k := 8 + (k + 1)) (n := 512 + 6 * (k + 1)) (by omega) (by omega) ?_
      exact nxt _ _ _ _ _ ls hR hl hP hD hS
    | 15, _, ej =>
      refine sw_tp (y := nI 15) ej ?_
      refine lv_tableOut (tgt := 451) hx hb dl_39 (by decide) (by decide) ?_
      refine W.widen (k := 8 + (k + 1)) (n := 512 + 6 * (k + 1)) (by omega) (by omega) ?_
      exact nxt _ _ _ _ _ ls hR hl hP hD hS
    | j + 16, hj, _ => exact absurd hj (by omega)
