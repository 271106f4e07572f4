/-! The law from its start; the claim. -/
set_option maxHeartbeats 8000000 in
set_option maxRecDepth 100000 in
theorem whole_start {p : Program} {e : Env} {s : State} {m : MethodId} {below : List Frame} {meth : Method} {c : Code} (l : Launch) (hfl : l.stackTraces = false) {b L : Nat} {xs : Nat → Int32} (hL : L ≤ 2048) (C0 : lw_At p s m meth c b L xs) : W p l e room_1 s m #[Value.ref b] below meth c s.heap [] 0 0 (lw_Z below #[Value.ref b] s) (entryFrame m ([Value.ref b] : List Value).toArray 7) := by
  have C1 := C0
  obtain ⟨hx, hb, hr, hml, hown0, hts, hX, hbl, hlk, hgv⟩ := C0
  have hown : s.vm.findClass R_Law = some m.cls := hown0
  have hB : ∀ w ∈ BIG, w.before #[Value.ref b] s = true := fun w hw => hts w (big_in w hw)
  have hN : va_Nw nestL s := va_Nw.of rfl (hts _ nest_in)
  have hfs := flat_of_before _ hgv
  have hTA : TAu s := TA_move (a := #[Value.ref b]) (s := s) (U := s) (State.WarmedH.refl s) (fun _ _ h => h) (fun c hc => (tal_in c hc).elim (fun h => hts c h) (fun h => by
    have h : c ∈ [Cond.isRef (.static R_TH "UNASSIGNED_STACK" "[Ljava/lang/StackTraceElement;"), Cond.isRef (.static R_TH "SUPPRESSED_SENTINEL" "Ljava/util/List;")] := h
    rcases List.mem_cons.mp h with rfl | h
    · exact hfs _ (by decide +kernel)
    rcases List.mem_cons.mp h with rfl | h
    · exact hfs _ (by decide +kernel)
    cases h))
  obtain ⟨D, cA, hK⟩ := law_K hB
  have hA : ∀ q : Nat, s.heap.size ≤ q → lwA s q := fun q h => h
  have hP : va_P D vwC [] s.heap := fun k q hk => by cases hk
  have hD : va_D (lwA s) [] := ⟨fun i j x y hi => (by cases hi), fun k q hk => (by cases hk)⟩
  have hS : va_S (lwA s) s.heap s.heap [] := va_S.rf
  rw [lg_entry_eq]
  have go : ∀ ls : Array Slot, lv_has ls 7 [(0, .ref b)] → W p l e room_1 s m #[Value.ref b] below meth c s.heap [] 0 0 (lw_Z below #[Value.ref b] s) (F0 m 0 ls []) := by
    intro ls hl
    refine va_new (ci := 0) (fs := [.null, .null, .null, .int 0, .int 0]) (C := R_X) (T := T_X) (N := 5) hx hb hB in_X ty_X ty_X_ok hown (hB _ wm_12) (hB _ wm_13) (hB _ wm_1) hK hP hD hS hA rfl (fun j hj => by match j, hj with
    | 0, _ => rfl
    | 1, _ => rfl
    | 2, _ => rfl
    | 3, _ => rfl
    | 4, _ => rfl
    | j + 5, hj => exact absurd hj (by omega)) (by decide) (by decide) dl_0 (fun aX H hP hD hS => ?_)
    have hP : va_P D vwC [(aX, .inr (0, [.null, .null, .null, .int 0, .int 0]))] H := hP
    have hD : va_D (lwA s) [(aX, .inr (0, [.null, .null, .null, .int 0, .int 0]))] := hD
    refine lv_dup hx hb dl_3 rfl ?_
    refine sw_callI (w := fun u : Nat × Nat × Nat × Nat => CW cA aX u.1 u.2.1 u.2.2.1 u.2.2.2 s_0) (wr := []) (rest := [.ref aX]) [0] [] [] hx hb hml hown hB hK hN hA hP hD hS rfl rfl (by decide) (by decide) (by decide) (k_X_init l D cA aX _) cw_Law_15 rfl rfl ⟨Nat.le_of_ble_eq_true rfl, Nat.le_of_ble_eq_true rfl⟩ ⟨Nat.le_of_ble_eq_true rfl, Nat.le_of_ble_eq_true rfl⟩ hl.1 rfl rfl (Nat.le_of_ble_eq_true rfl) dl_4 (fun u H locs hq hP hD hS => ?_)
    obtain ⟨aF, aB, aL, aP⟩ := u
    have hP : va_P D vwC (CW cA aX aF aB aL aP s_0) H := hP
    have hD : va_D (lwA s) (CW cA aX aF aB aL aP s_0) := hD
    refine lv_astore_n hx hb dl_7 rfl hl (by decide) rfl (fun ls hl => ?_)
    have hl : lv_has ls 7 [(1, .ref aX), (0, .ref b)] := hl
    refine va_new (ci := 4) (fs := [.int 0, .null, .int 0, .int 0, .int 0, .int 0, .int 0, .int 0, .int 0, .int 0, .int 0, .int 0, .int 0, .int 0]) (C := R_M) (T := T_M) (N := 14) hx hb hB in_M ty_M ty_M_ok hown (hB _ wm_348) (hB _ wm_349) (hB _ wm_6) hK hP hD hS hA rfl (fun j hj => by match j, hj with
    | 0, _ => rfl
    | 1, _ => rfl
    | 2, _ => rfl
    | 3, _ => rfl
    | 4, _ => rfl
    | 5, _ => rfl
    | 6, _ => rfl
    | 7, _ => rfl
    | 8, _ => rfl
    | 9, _ => rfl
    | 10, _ => rfl
    | 11, _ => rfl
    | 12, _ => rfl
    | 13, _ => rfl
    | j + 14, hj => exact absurd hj (by omega)) (by decide) (by decide) dl_8 (fun aM H hP hD hS => ?_)
    refine lv_dup hx hb dl_11 rfl ?_
    refine sw_callI (w := fun aG : Nat => MW cA aM aG m_0) (wr := CW cA aX aF aB aL aP s_0) (rest := [.ref aM]) [5] [0, 1, 2, 3, 4] [] hx hb hml hown hB hK hN hA hP hD hS rfl rfl (by decide) (by decide) (by decide) (k_M_init l D cA aM _) cw_Law_18 rfl rfl ⟨Nat.le_of_ble_eq_true rfl, Nat.le_of_ble_eq_true rfl⟩ ⟨Nat.le_of_ble_eq_true rfl, Nat.le_of_ble_eq_true rfl⟩ hl.1 rfl rfl (Nat.le_of_ble_eq_true rfl) dl_12 (fun aG H locs hq hP hD hS => ?_)
    refine lv_astore_n hx hb dl_15 rfl hl (by decide) rfl (fun ls hl => ?_)
    have hl : lv_has ls 7 [(2, .ref aM), (1, .ref aX), (0, .ref b)] := hl
    refine lv_iconst (v := 1) hx hb dl_16 rfl ?_
    refine va_newa (atype := .long) (ty := .long) (N' := 1) (a0 := (1, .inr (.inl (fun _ => (0 : Int64))))) hx hb (hB _ wm_503) rfl hK hP hD hS hA (fun _ => rfl) (by decide) rfl (by decide) (by decide) (by decide) dl_17 (fun aJ cL H hK2 hP hD hS => ?_)
    have hK2 : va_K D vwC [(cA, .int), (cL, .long)] s := hK2
    refine lv_astore_n hx hb dl_19 rfl hl (by decide) rfl (fun ls hl => ?_)
    have hl : lv_has ls 7 [(3, .ref aJ), (2, .ref aM), (1, .ref aX), (0, .ref b)] := hl
    refine lv_iconst (v := nI (4 * 0)) hx hb dl_20 rfl ?_
    refine lv_istore hx hb dl_21 hl (by decide) rfl (fun ls hl => ?_)
    refine W.widen (k := 8 + 0) (n := 512 + 6 * 0) (by decide) (by decide) ?_
    exact law_loop l hfl hL C1 hB hTA hK2 hN aX aF aB aL aP aJ aM aG _ 0 rfl (Nat.zero_le _) s_0 m_0 (fun _ => 0) H locs ls rl_0 hl (hP.sub [7, 0, 1, 2, 3, 4, 5, 6] rfl) (hD.sub [7, 0, 1, 2, 3, 4, 5, 6] (by decide) rfl) hS
  exact go _ (lv_entry [Value.ref b] (Nat.le_of_ble_eq_true rfl))
set_option maxHeartbeats 4000000 in
theorem lw_walk (l : Launch) (hfl : l.stackTraces = false) (b : Addr) (xs : List Int32) : MetFree l x (headSpec (Jvm.Cond.code x code maxLocals ret :: tables_1) room_1) (lw_P b xs) (fun _ _ _ _ _ => True) lw_Q := by
  refine MetFree.of_bodyS (code := code) (maxLocals := maxLocals) (ret := ret) (by decide) ?_ ?_
  · intro args s m h hn
    obtain ⟨meth, c, h1, h2, h3, h4, h5, h6, -, -⟩ := Cond.code_spec hn (atoms_spec (ws := Jvm.Cond.code x code maxLocals ret :: tables_1) h _ List.mem_cons_self)
    exact ⟨meth, c, h1, h2, h3, h4, h5, h6⟩
  · intro p e s m args below meth c s₁ B hml0 hP _
    obtain ⟨rfl, hx, hbd, hgv⟩ := hP
    obtain ⟨scr, harrAt, hlist, hof, hsmall⟩ := hx
    obtain ⟨hcb, hkn, -, -⟩ := State.arrayAt?_spec harrAt
    have hown : s.vm.findClass R_law = some m.cls := findClass_of_methodNamed B.named
    have hts0 : ∀ c ∈ (Jvm.Cond.code x code maxLocals ret :: tables_1), c.before #[Value.ref b] s = true := atoms_spec (ws := Jvm.Cond.code x code maxLocals ret :: tables_1) B.pre
    have hts : ∀ w ∈ lw_tbl, w.before #[Value.ref b] s = true := k2_hts_sels lw_privs (fun w hw => hts0 w (List.mem_cons_of_mem _ hw)) lw_privs_ok
    have hml : c.maxLocals = 7 := B.maxLocals_eq (hts0 _ List.mem_cons_self)
    have X₀ : Stand p l e room_1 s m #[Value.ref b] below meth c s₁ [] 0 0 := Stand.of_body B
    have hh0 : s₁.heap = s.heap := by rw [B.state]; rfl
    have hsz : scr.slots.size = xs.length := by rw [← Array.length_toList, hlist, List.length_map]
    have hval : ∀ j : Nat, j < xs.length → scr.slots[j]? = some (.int (xs.getD j 0)) := fun j hj => by
      rw [← Array.getElem?_toList, hlist]
      simp [hj]
    have hbl : b < s.heap.size := (Array.getElem?_eq_some_iff.mp hcb).1
    have hX : va_X b xs.length (fun j => xs.getD j 0) s s.heap := ⟨scr, hcb, hof, hkn, hsz, hval⟩
    have K : W p l e room_1 s m #[Value.ref b] below meth c s₁.heap [] 0 0 (lw_Z below #[Value.ref b] s) (entryFrame m ([Value.ref b] : List Value).toArray 7) := by
      rw [hh0]
      exact whole_start l hfl hbd ⟨B.exec, B.bytes, B.returns, hml, hown, hts, hX, hbl, B.notSynchronized, hgv⟩
    obtain ⟨t, a1, o, b1, b2, b3⟩ := K s₁ rfl X₀
    exact ⟨t, o, a1, b1, b2, b3⟩
theorem lw_pre_spec {args : Array Value} {s : State} (h : (Jvm.Cond.and given_1 narrow_1).before args s = true) (hr : rest_1_c.before args s = true) : ∃ (b : Addr) (xs : List Int32), lw_P b xs args s := by
  have hs := flat_of_before _ h
  have hq := flat_of_before _ hr
  have hc : (Cond.count 1).before args s = true := hs _ (by decide +kernel)
  have harr : (Cond.arrayOf (.arg 0) .int).before args s = true := hs _ (by decide +kernel)
  have hle : (Cond.le (.length (.arg 0)) (.int 2048)).before args s = true := hs _ (by decide +kernel)
  have hlen : (Cond.isInt (.length (.arg 0))).before args s = true := hq _ (by decide +kernel)
  have hall : (Cond.all (.arg 0) (.isInt (.elem (.arg 0) (.index 0)))).before args s = true := hq _ (by decide +kernel)
  obtain ⟨b, xs, hb, hx⟩ := State.ints_of_pre rfl harr hlen hall
  have hsm : xs.length < 2 ^ 31 := hx.choose_spec.2.2.2
  have hev : (Term.length (.arg 0)).eval args s none [] s = some (.int xs.length.toInt32) := hx.length_eval hb
  have hv := Cond.le_ints hev (show (Term.int 2048).eval args s none [] s = some (.int 2048) from rfl)
  have hd : xs.length.toInt32 ≤ 2048 := by
    simpa [Cond.before, Cond.holds, hv] using hle
  have hN : xs.length ≤ 2048 := (Int32.ofNat_le_ofNat hsm (by decide)).mp (show Int32.ofNat xs.length ≤ Int32.ofNat 2048 from hd)
  exact ⟨b, xs, Cond.one_arg hc (show args[0]? = some (.ref b) from hb), hx, hN, h⟩
theorem lw_comes (l : Launch) (hfl : l.stackTraces = false) : Comes l x (Jvm.Cond.code x code maxLocals ret :: tables_1) room_1 (fun tb e args s => Calls_1 tb e args s ∧ rest_1 tb e args s ∧ Pre_1 tb e args s)
    (fun _ _ args s o t => lw_Q args s o t) := by
  intro p e ha hc hk s m args below hf hfit hheap happ hpre
  obtain ⟨b, xs, hP⟩ := lw_pre_spec hpre.2.2 hpre.2.1
  obtain ⟨k, o, h1, h2, h3, hQ⟩ := lw_walk l hfl b xs p e ha hc hk s m args below hf ((Spec.applies_iff_loose hf).mp happ).1 hP trivial
  exact ⟨k, o, h1, h2, h3, hQ⟩
theorem lw_frame {s t : State} {o : Outcome} {args : Array Value} (h : Framed s o t [] 1033 8710) :
    Framed s o t (fieldLocs frame_1_writes args s ++ arrayLocs frame_1_arrays args s ++ staticLocs frame_1_statics s) 1033 8710 := h
theorem lw_limb (L : Cond) (hL : ∀ (args : Array Value) (s t : State), L.after args s (.returned (some (.int 1))) t = true) :
    ArmFor flags0 classFile x code maxLocals ret World_1 tables_1 room_1 Calls_1 rest_1 Pre_1
      (fun tb e a s o t => postC L tb e a s o t ∧ Framed s o t (fieldLocs frame_1_writes a s ++ arrayLocs frame_1_arrays a s ++ staticLocs frame_1_statics s) 1033 8710) := by
  intro l hflags _ _ p e ha hc hk s m args below hf hfit hheap happ hpre
  obtain ⟨k, o, h1, h2, h3, rfl, hF⟩ := lw_comes l (by unfold Launch.stackTraces; rw [hflags]; decide +kernel) p e ha hc hk s m args below hf hfit hheap happ hpre
  exact ⟨k, _, h1, h2, h3, hL args s _, lw_frame hF⟩
theorem i_vc : Claimed_1_1 ∧ Claimed_1_2 := ⟨lw_limb limb_1_1 (fun args s t => by simp [limb_1_1, Cond.after, Cond.holds, Cond.value]), lw_limb limb_1_2 (fun args s t => Cond.after_iff.mpr (by
  first | (rw [show limb_1_2 = Cond.eq .result (.int 1) from rfl, Cond.eq_ints (x := 1) (y := 1) rfl rfl]; simp; done) | (simp [limb_1_2, Cond.value, Term.eval]; done)))⟩
